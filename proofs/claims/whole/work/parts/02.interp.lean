/-! THE ABSTRACT MACHINE. A heap: cells and slots made so far; the cells' shapes (0 and its kind number: an object; 1, 2, 3, 4 and a length: a row of ints, bytes, booleans, a row of ints that may move); what reference fields hold; ints of fields and rows; longs of fields. -/
abbrev ai_Hp : Type := (Nat × Nat) × List (Nat × Nat) × (Nat → Nat → Option Nat) × (Nat → Nat → Int32) × (Nat → Nat → Int64)
abbrev ai_Res : Type := Option ((Option Value ⊕ Nat) × ai_Hp)
abbrev ai_Rec : Type := Nat → Nat → Nat → List Value → List Value → ai_Hp → ai_Res
abbrev ai_K : Type := List Value → List Value → ai_Hp → ai_Res
abbrev ai_Op : Type := Instr × List Nat × Int32
/-- a block: its instructions, the block behind it, which locals are still read -/
abbrev ai_Bk : Type := List ai_Op × Nat × List Bool
def ai_msk : List Bool → List Value → List Value
  | true :: bs, v :: vs => v :: ai_msk bs vs
  | false :: bs, _ :: vs => .retAddr 0 :: ai_msk bs vs
  | _, vs => vs
def ai_un : Value := .retAddr 0
def ai_up (M : Nat → Nat → Int32) (k i : Nat) (v : Int32) : Nat → Nat → Int32 := fun a => if a = k then upd (M k) i v else M a
def ai_uR (R : Nat → Nat → Option Nat) (k i : Nat) (v : Option Nat) : Nat → Nat → Option Nat := fun a j => if a = k then (if j = i then v else R k j) else R a j
def ai_uL (N : Nat → Nat → Int64) (k i : Nat) (v : Int64) : Nat → Nat → Int64 := fun a => if a = k then vp_updL (N k) i v else N a
def ai_set (L : List Value) (i : Nat) (v : Value) : List Value := match i with
  | 0 => L.set 0 v
  | j + 1 => match L[j]? with
    | some (.long _) => (L.set j ai_un).set (j + 1) v
    | _ => L.set (j + 1) v
def ai_in (i : Int32) (n : Nat) : Bool := decide (0 ≤ i.toInt) && decide (i.toInt < (n : Int))
def ai_obj (h : ai_Hp) (a ci : Nat) : Bool := match h.2.1[a]? with
  | some q => Nat.beq q.1 0 && Nat.beq q.2 ci
  | none => false
def ai_row (h : ai_Hp) (a k1 k2 : Nat) : Option Nat := match h.2.1[a]? with
  | some q => cond (Nat.beq q.1 k1 || Nat.beq q.1 k2) (some q.2) none
  | none => none
def ai_len (h : ai_Hp) (a : Nat) : Option Nat := match h.2.1[a]? with
  | some q => cond (Nat.beq q.1 0) none (some q.2)
  | none => none
def ai_kd (h : ai_Hp) (a : Nat) : Nat := match h.2.1[a]? with
  | some q => q.1
  | none => 0
def ai_frv (S : List (Nat × Nat)) (v : Value) : Bool := match v with
  | .ref a => (match S[a]? with
    | some q => !(Nat.beq q.1 4)
    | none => false)
  | _ => true
def ai_fr (S : List (Nat × Nat)) (vs : List Value) : Bool := vs.all (ai_frv S)
def ai_nrv (n : Nat) (v : Value) : Bool := match v with
  | .ref a => !(Nat.beq a n)
  | _ => true
def ai_nr (n : Nat) (vs : List Value) : Bool := vs.all (ai_nrv n)
def ai_wt (vs : List Value) : Nat := (vs.map fun v => v.category).sum
def ai_lay (vs : List Value) : List Value := vs.flatMap fun v => match v with
  | .long x => [.long x, ai_un]
  | v => [v]
def ai_ent (n : Nat) (vs : List Value) : List Value := ai_lay vs ++ List.replicate (n - (ai_lay vs).length) ai_un
def ai_ldI (i : Nat) (L st : List Value) (h : ai_Hp) (k : ai_K) : ai_Res := match L[i]? with
  | some (.int x) => k L (.int x :: st) h
  | _ => none
def ai_ldL (i : Nat) (L st : List Value) (h : ai_Hp) (k : ai_K) : ai_Res := match L[i]? with
  | some (.long x) => k L (.long x :: st) h
  | _ => none
def ai_ldA (i : Nat) (L st : List Value) (h : ai_Hp) (k : ai_K) : ai_Res := match L[i]? with
  | some (.ref x) => k L (.ref x :: st) h
  | some .null => k L (.null :: st) h
  | some (.retAddr (j + 1)) => k L (.retAddr (j + 1) :: st) h
  | _ => none
def ai_stI (i : Nat) (L st : List Value) (h : ai_Hp) (k : ai_K) : ai_Res := match st with
  | .int x :: r => cond (Nat.blt i L.length) (k (ai_set L i (.int x)) r h) none
  | _ => none
def ai_stL (i : Nat) (L st : List Value) (h : ai_Hp) (k : ai_K) : ai_Res := match st with
  | .long x :: r => cond (Nat.blt (i + 1) L.length) (k ((ai_set L i (.long x)).set (i + 1) ai_un) r h) none
  | _ => none
def ai_stA (i : Nat) (L st : List Value) (h : ai_Hp) (k : ai_K) : ai_Res := match st with
  | .ref x :: r => cond (Nat.blt i L.length) (k (ai_set L i (.ref x)) r h) none
  | _ => none
def ai_bin (f : Int32 → Int32 → Int32) (L st : List Value) (h : ai_Hp) (k : ai_K) : ai_Res := match st with
  | .int y :: .int x :: r => k L (.int (f x y) :: r) h
  | _ => none
def ai_binL (f : Int64 → Int64 → Int64) (L st : List Value) (h : ai_Hp) (k : ai_K) : ai_Res := match st with
  | .long y :: .long x :: r => k L (.long (f x y) :: r) h
  | _ => none
def ai_un1 (f : Int32 → Value) (L st : List Value) (h : ai_Hp) (k : ai_K) : ai_Res := match st with
  | .int x :: r => k L (f x :: r) h
  | _ => none
/-- a comparison, taken or not -/
def ai_br (cd : ClassFile.Cond) (x y : Int32) (t f : ai_Res) : ai_Res := match cd with
  | .eq => if x = y then t else f
  | .ne => if x = y then f else t
  | .lt => if x < y then t else f
  | .ge => if y ≤ x then t else f
  | .gt => if y < x then t else f
  | .le => if x ≤ y then t else f
def ai_look (x : Int) : List (Int × Int) → List Nat → Nat → Nat
  | [], _, d => d
  | q :: ps, t :: ts, d => if x = q.1 then t else ai_look x ps ts d
  | _ :: _, [], d => d
def ai_getf (a : Nat) (ci j ty : Nat) (h : ai_Hp) : Option Value := cond (ai_obj h a ci) (match ty with
    | 0 => some (.int (h.2.2.2.1 a j))
    | 1 => some (.long (h.2.2.2.2 a j))
    | _ => match h.2.2.1 a j with
      | some v => some (.ref v)
      | none => some .null) none
def ai_putf (v : Value) (a : Nat) (ci j ty : Nat) (h : ai_Hp) : Option ai_Hp := cond (ai_obj h a ci) (match ty, v with
    | 0, .int x => some (h.1, h.2.1, h.2.2.1, ai_up h.2.2.2.1 a j x, h.2.2.2.2)
    | 1, .long x => some (h.1, h.2.1, h.2.2.1, h.2.2.2.1, ai_uL h.2.2.2.2 a j x)
    | 2, .ref x => cond (Nat.blt x h.2.1.length) (some (h.1, h.2.1, ai_uR h.2.2.1 a j (some x), h.2.2.2.1, h.2.2.2.2)) none
    | 2, .null => some (h.1, h.2.1, ai_uR h.2.2.1 a j none, h.2.2.2.1, h.2.2.2.2)
    | _, _ => none) none
/-- a row more, all 0 -/
def ai_mk (kd n : Nat) (h : ai_Hp) : ai_Hp := ((h.1.1 + 1, h.1.2 + n), h.2.1 ++ [(kd, n)], h.2.2.1, (fun a => if a = h.2.1.length then (fun _ => 0) else h.2.2.2.1 a), h.2.2.2.2)
/-- an object more, of nf fields, all 0 and null -/
def ai_ob (ci nf : Nat) (h : ai_Hp) : ai_Hp := ((h.1.1 + 1, h.1.2 + nf), h.2.1 ++ [(0, ci)], (fun a => if a = h.2.1.length then (fun _ => none) else h.2.2.1 a), (fun a => if a = h.2.1.length then (fun _ => 0) else h.2.2.2.1 a), (fun a => if a = h.2.1.length then (fun _ => 0) else h.2.2.2.2 a))
def ai_sto (a : Nat) (i x : Int32) (h : ai_Hp) : ai_Hp := (h.1, h.2.1, h.2.2.1, ai_up h.2.2.2.1 a i.toNatClampNeg x, h.2.2.2.2)
/-! the program, as blocks of instructions -/
/-- CourtProgress$Calendar.<init>()V -/
def ai_c0 : List ai_Bk := [([(.aload_n 0, [], 0), (.invokespecial 3, [998, 1, 999, 0, 0], 0), (.aload_n 0, [], 0), (.sipush 200, [], 200), (.newarray .int, [1], 0), (.putfield 9, [0, 0, 2, 0], 0), (.aload_n 0, [], 0), (.sipush 200, [], 200), (.newarray .int, [1], 0), (.putfield 15, [0, 1, 2, 1], 0), (.iconst 0, [], 0), (.istore_n 1, [], 0)], 1, [true, false]),
  ([(.iload_n 1, [], 0), (.sipush 200, [], 200), (.if_icmp .ge 16, [2], 0), (.aload_n 0, [], 0), (.getfield 15, [0, 1, 2, 1], 0), (.iload_n 1, [], 0), (.iconst (-1), [], (-1)), (.iastore, [], 0), (.iinc 1 1, [], 1), (.goto (-17), [1], 0)], 0, [true, true]),
  ([(.return_, [], 0)], 0, [false, false])]
/-- CourtProgress$Calendar.setMud(III)V -/
def ai_c1 : List ai_Bk := [([(.iload_n 1, [], 0), (.iconst 0, [], 0), (.invokestatic 18, [211, 2, 999, 0, 0], 0)], 1, [true, true, true, true, false]),
  ([(.istore 4, [], 0)], 2, [true, false, true, true, false]),
  ([(.iload 4, [], 0), (.iload_n 2, [], 0), (.if_icmp .gt 25, [3], 0), (.iload 4, [], 0), (.sipush 200, [], 200), (.if_icmp .ge 17, [3], 0), (.aload_n 0, [], 0), (.getfield 9, [0, 0, 2, 0], 0), (.iload 4, [], 0), (.iload_n 3, [], 0), (.iastore, [], 0), (.iinc 4 1, [], 1), (.goto (-25), [2], 0)], 0, [true, false, true, true, true]),
  ([(.return_, [], 0)], 0, [false, false, false, false, false])]
/-- CourtProgress$Calendar.mudOf(I)I -/
def ai_c2 : List ai_Bk := [([(.iload_n 1, [], 0), (.invokestatic 24, [141, 1, 999, 0, 1], 0)], 1, [true, true]),
  ([(.ifCond .eq 12, [2], 0), (.aload_n 0, [], 0), (.getfield 9, [0, 0, 2, 0], 0), (.iload_n 1, [], 0), (.iaload, [], 0), (.goto 4, [3], 0)], 0, [true, true]),
  ([(.iconst 0, [], 0)], 3, [false, false]),
  ([(.ireturn, [0], 0)], 0, [false, false])]
/-- CourtProgress$Calendar.feastOf(I)I -/
def ai_c3 : List ai_Bk := [([(.iload_n 1, [], 0), (.invokestatic 24, [141, 1, 999, 0, 1], 0)], 1, [true, true]),
  ([(.ifCond .eq 12, [2], 0), (.aload_n 0, [], 0), (.getfield 15, [0, 1, 2, 1], 0), (.iload_n 1, [], 0), (.iaload, [], 0), (.goto 4, [3], 0)], 0, [true, true]),
  ([(.iconst (-1), [], (-1))], 3, [false, false]),
  ([(.ireturn, [0], 0)], 0, [false, false])]
/-- CourtProgress$Calendar.hasRoomForFeast(I)Z -/
def ai_c4 : List ai_Bk := [([(.aload_n 0, [], 0), (.getfield 28, [0, 2, 0, 2], 0), (.bipush 8, [], 8), (.if_icmp .lt 12, [2], 0), (.aload_n 0, [], 0), (.iload_n 1, [], 0), (.invokevirtual 32, [3, 2, 0, 0, 2], 0)], 1, [true, true]),
  ([(.iconst (-1), [], (-1)), (.if_icmp .eq 7, [3], 0)], 2, [false, false]),
  ([(.iconst 1, [], 1), (.goto 4, [4], 0)], 0, [false, false]),
  ([(.iconst 0, [], 0)], 4, [false, false]),
  ([(.ireturn, [1], 0)], 0, [false, false])]
/-- CourtProgress$Calendar.setFeast(II)V -/
def ai_c5 : List ai_Bk := [([(.iload_n 1, [], 0), (.invokestatic 24, [141, 1, 999, 0, 1], 0)], 1, [true, true, true]),
  ([(.ifCond .ne 4, [2], 0), (.return_, [], 0)], 0, [true, true, true]),
  ([(.aload_n 0, [], 0), (.getfield 15, [0, 1, 2, 1], 0), (.iload_n 1, [], 0), (.iaload, [], 0), (.iconst (-1), [], (-1)), (.if_icmp .eq 13, [3], 0), (.aload_n 0, [], 0), (.dup, [], 0), (.getfield 28, [0, 2, 0, 2], 0), (.iconst 1, [], 1), (.isub, [], 0), (.putfield 28, [0, 2, 0, 2], 0)], 3, [true, true, true]),
  ([(.iload_n 2, [], 0), (.iconst (-1), [], (-1)), (.if_icmp .eq 13, [4], 0), (.aload_n 0, [], 0), (.dup, [], 0), (.getfield 28, [0, 2, 0, 2], 0), (.iconst 1, [], 1), (.iadd, [], 0), (.putfield 28, [0, 2, 0, 2], 0)], 4, [true, true, true]),
  ([(.aload_n 0, [], 0), (.getfield 15, [0, 1, 2, 1], 0), (.iload_n 1, [], 0), (.iload_n 2, [], 0), (.iastore, [], 0), (.return_, [], 0)], 0, [true, true, true])]
/-- CourtProgress$Households.<init>()V -/
def ai_c6 : List ai_Bk := [([(.aload_n 0, [], 0), (.invokespecial 3, [998, 1, 999, 0, 0], 0), (.aload_n 0, [], 0), (.bipush 8, [], 8), (.newarray .int, [1], 0), (.putfield 9, [1, 1, 2, 3], 0), (.aload_n 0, [], 0), (.bipush 8, [], 8), (.newarray .int, [1], 0), (.putfield 15, [1, 2, 2, 4], 0), (.aload_n 0, [], 0), (.bipush 8, [], 8), (.newarray .int, [1], 0), (.putfield 18, [1, 3, 2, 5], 0), (.aload_n 0, [], 0), (.bipush 8, [], 8), (.newarray .int, [1], 0), (.putfield 21, [1, 4, 2, 6], 0), (.return_, [], 0)], 0, [true])]
/-- CourtProgress$Households.has(I)Z -/
def ai_c7 : List ai_Bk := [([(.iload_n 1, [], 0), (.ifCond .lt 15, [1], 0), (.iload_n 1, [], 0), (.aload_n 0, [], 0), (.getfield 24, [1, 0, 0, 7], 0), (.if_icmp .ge 7, [1], 0), (.iconst 1, [], 1), (.goto 4, [2], 0)], 0, [true, true]),
  ([(.iconst 0, [], 0)], 2, [false, false]),
  ([(.ireturn, [1], 0)], 0, [false, false])]
/-- CourtProgress$Households.add(III)I -/
def ai_c8 : List ai_Bk := [([(.aload_n 0, [], 0), (.getfield 24, [1, 0, 0, 7], 0), (.bipush 8, [], 8), (.if_icmp .lt 5, [1], 0), (.iconst (-1), [], (-1)), (.ireturn, [0], 0)], 0, [true, true, true, true]),
  ([(.aload_n 0, [], 0), (.getfield 9, [1, 1, 2, 3], 0), (.aload_n 0, [], 0), (.getfield 24, [1, 0, 0, 7], 0), (.iload_n 1, [], 0), (.iastore, [], 0), (.aload_n 0, [], 0), (.getfield 15, [1, 2, 2, 4], 0), (.aload_n 0, [], 0), (.getfield 24, [1, 0, 0, 7], 0), (.iload_n 2, [], 0), (.iastore, [], 0), (.aload_n 0, [], 0), (.getfield 18, [1, 3, 2, 5], 0), (.aload_n 0, [], 0), (.getfield 24, [1, 0, 0, 7], 0), (.iload_n 3, [], 0), (.iastore, [], 0), (.aload_n 0, [], 0), (.dup, [], 0), (.getfield 24, [1, 0, 0, 7], 0), (.iconst 1, [], 1), (.iadd, [], 0), (.putfield 24, [1, 0, 0, 7], 0), (.aload_n 0, [], 0), (.getfield 24, [1, 0, 0, 7], 0), (.iconst 1, [], 1), (.isub, [], 0), (.ireturn, [0], 0)], 0, [true, true, true, true])]
/-- CourtProgress$Households.setBar(IIZ)V -/
def ai_c9 : List ai_Bk := [([(.aload_n 0, [], 0), (.iload_n 1, [], 0), (.invokevirtual 28, [7, 2, 1, 0, 3], 0)], 1, [true, true, true, true]),
  ([(.ifCond .eq 11, [3], 0), (.aload_n 0, [], 0), (.iload_n 2, [], 0), (.invokevirtual 28, [7, 2, 1, 0, 3], 0)], 2, [true, true, true, true]),
  ([(.ifCond .ne 4, [4], 0)], 3, [true, true, true, true]),
  ([(.return_, [], 0)], 0, [false, false, false, false]),
  ([(.iload_n 3, [], 0), (.ifCond .eq 30, [5], 0), (.aload_n 0, [], 0), (.getfield 21, [1, 4, 2, 6], 0), (.iload_n 1, [], 0), (.dup2, [], 0), (.iaload, [], 0), (.iconst 1, [], 1), (.iload_n 2, [], 0), (.ishl, [], 0), (.ior, [], 0), (.iastore, [], 0), (.aload_n 0, [], 0), (.getfield 21, [1, 4, 2, 6], 0), (.iload_n 2, [], 0), (.dup2, [], 0), (.iaload, [], 0), (.iconst 1, [], 1), (.iload_n 1, [], 0), (.ishl, [], 0), (.ior, [], 0), (.iastore, [], 0), (.goto 31, [6], 0)], 0, [true, true, true, true]),
  ([(.aload_n 0, [], 0), (.getfield 21, [1, 4, 2, 6], 0), (.iload_n 1, [], 0), (.dup2, [], 0), (.iaload, [], 0), (.iconst 1, [], 1), (.iload_n 2, [], 0), (.ishl, [], 0), (.iconst (-1), [], (-1)), (.ixor, [], 0), (.iand, [], 0), (.iastore, [], 0), (.aload_n 0, [], 0), (.getfield 21, [1, 4, 2, 6], 0), (.iload_n 2, [], 0), (.dup2, [], 0), (.iaload, [], 0), (.iconst 1, [], 1), (.iload_n 1, [], 0), (.ishl, [], 0), (.iconst (-1), [], (-1)), (.ixor, [], 0), (.iand, [], 0), (.iastore, [], 0)], 6, [true, true, true, false]),
  ([(.return_, [], 0)], 0, [false, false, false, false])]
/-- CourtProgress$Households.ranksDiffer()Z -/
def ai_c10 : List ai_Bk := [([(.iconst 1, [], 1), (.istore_n 1, [], 0)], 1, [true, false]),
  ([(.iload_n 1, [], 0), (.aload_n 0, [], 0), (.getfield 24, [1, 0, 0, 7], 0), (.if_icmp .ge 26, [3], 0), (.aload_n 0, [], 0), (.getfield 9, [1, 1, 2, 3], 0), (.iload_n 1, [], 0), (.iaload, [], 0), (.aload_n 0, [], 0), (.getfield 9, [1, 1, 2, 3], 0), (.iconst 0, [], 0), (.iaload, [], 0), (.if_icmp .eq 5, [2], 0), (.iconst 1, [], 1), (.ireturn, [1], 0)], 0, [true, true]),
  ([(.iinc 1 1, [], 1), (.goto (-28), [1], 0)], 0, [true, true]),
  ([(.iconst 0, [], 0), (.ireturn, [1], 0)], 0, [false, false])]
/-- CourtProgress$Households.allHorses()I -/
def ai_c11 : List ai_Bk := [([(.iconst 0, [], 0), (.istore_n 1, [], 0), (.iconst 0, [], 0), (.istore_n 2, [], 0)], 1, [true, false, false]),
  ([(.iload_n 2, [], 0), (.aload_n 0, [], 0), (.getfield 24, [1, 0, 0, 7], 0), (.if_icmp .ge 18, [2], 0), (.iload_n 1, [], 0), (.aload_n 0, [], 0), (.getfield 18, [1, 3, 2, 5], 0), (.iload_n 2, [], 0), (.iaload, [], 0), (.iadd, [], 0), (.istore_n 1, [], 0), (.iinc 2 1, [], 1), (.goto (-20), [1], 0)], 0, [true, true, true]),
  ([(.iload_n 1, [], 0), (.ireturn, [0], 0)], 0, [false, true, false])]
/-- CourtProgress$Lodger.<init>(LCourtProgress$Households;LCourtProgress$Places;)V -/
def ai_c12 : List ai_Bk := [([(.aload_n 0, [], 0), (.invokespecial 3, [998, 1, 999, 0, 0], 0), (.aload_n 0, [], 0), (.bipush 10, [], 10), (.newarray .int, [1], 0), (.putfield 9, [2, 3, 2, 8], 0), (.aload_n 0, [], 0), (.bipush 10, [], 10), (.newarray .int, [1], 0), (.putfield 15, [2, 4, 2, 9], 0), (.aload_n 0, [], 0), (.bipush 10, [], 10), (.newarray .int, [1], 0), (.putfield 18, [2, 5, 2, 10], 0), (.aload_n 0, [], 0), (.bipush 10, [], 10), (.newarray .int, [1], 0), (.putfield 21, [2, 6, 2, 11], 0), (.aload_n 0, [], 0), (.bipush 10, [], 10), (.newarray .int, [1], 0), (.putfield 24, [2, 7, 2, 12], 0), (.aload_n 0, [], 0), (.bipush 10, [], 10), (.newarray .int, [1], 0), (.putfield 27, [2, 8, 2, 13], 0), (.aload_n 0, [], 0), (.bipush 72, [], 72), (.newarray .int, [1], 0), (.putfield 30, [2, 9, 2, 14], 0), (.aload_n 0, [], 0), (.bipush 8, [], 8), (.newarray .int, [1], 0), (.putfield 33, [2, 10, 2, 15], 0), (.aload_n 0, [], 0), (.bipush 8, [], 8), (.newarray .int, [1], 0), (.putfield 36, [2, 11, 2, 16], 0), (.aload_n 0, [], 0), (.bipush 8, [], 8), (.newarray .int, [1], 0), (.putfield 39, [2, 12, 2, 17], 0), (.aload_n 0, [], 0), (.bipush 8, [], 8), (.newarray .int, [1], 0), (.putfield 42, [2, 13, 2, 18], 0), (.aload_n 0, [], 0), (.aload_n 1, [], 0), (.putfield 45, [2, 0, 2, 19], 0), (.aload_n 0, [], 0), (.aload_n 2, [], 0), (.putfield 49, [2, 1, 2, 20], 0), (.return_, [], 0)], 0, [true, true, true])]
/-- CourtProgress$Lodger.roomOf(I)I -/
def ai_c13 : List ai_Bk := [([(.aload_n 0, [], 0), (.getfield 45, [2, 0, 2, 19], 0), (.iload_n 1, [], 0), (.invokevirtual 53, [7, 2, 1, 0, 4], 0)], 1, [true, true]),
  ([(.ifCond .eq 17, [2], 0), (.aload_n 0, [], 0), (.getfield 9, [2, 3, 2, 8], 0), (.aload_n 0, [], 0), (.getfield 42, [2, 13, 2, 18], 0), (.iload_n 1, [], 0), (.iaload, [], 0), (.iaload, [], 0), (.goto 4, [3], 0)], 0, [true, true]),
  ([(.iconst (-1), [], (-1))], 3, [false, false]),
  ([(.ireturn, [0], 0)], 0, [false, false])]
/-- CourtProgress$Lodger.reasonAgainst(I)I -/
def ai_c14 : List ai_Bk := [([(.aload_n 0, [], 0), (.getfield 49, [2, 1, 2, 20], 0), (.iload_n 1, [], 0), (.invokevirtual 59, [33, 2, 3, 0, 5], 0)], 1, [true, true]),
  ([(.ifCond .ne 5, [2], 0), (.iconst (-1), [], (-1)), (.ireturn, [0], 0)], 0, [true, true]),
  ([(.aload_n 0, [], 0), (.getfield 49, [2, 1, 2, 20], 0), (.getfield 62, [3, 6, 2, 21], 0), (.iload_n 1, [], 0), (.iaload, [], 0), (.aload_n 0, [], 0), (.getfield 45, [2, 0, 2, 19], 0), (.getfield 65, [1, 0, 0, 22], 0), (.if_icmp .ge 5, [3], 0), (.iconst 1, [], 1), (.ireturn, [0], 0)], 0, [true, true]),
  ([(.aload_n 0, [], 0), (.getfield 45, [2, 0, 2, 19], 0), (.invokevirtual 69, [11, 1, 1, 0, 6], 0)], 4, [true, true]),
  ([(.aload_n 0, [], 0), (.getfield 49, [2, 1, 2, 20], 0), (.getfield 73, [3, 3, 2, 23], 0), (.iload_n 1, [], 0), (.iaload, [], 0), (.if_icmp .le 5, [5], 0), (.iconst 2, [], 2), (.ireturn, [0], 0)], 0, [true, true]),
  ([(.aload_n 0, [], 0), (.iload_n 1, [], 0), (.iconst 1, [], 1), (.invokevirtual 76, [16, 3, 2, 0, 7], 0)], 6, [true, true]),
  ([(.ifCond .eq 5, [7], 0), (.iconst 0, [], 0), (.ireturn, [0], 0)], 0, [true, true]),
  ([(.aload_n 0, [], 0), (.iload_n 1, [], 0), (.iconst 0, [], 0), (.invokevirtual 76, [16, 3, 2, 0, 7], 0)], 8, [true, true]),
  ([(.ifCond .eq 7, [9], 0), (.iconst 4, [], 4), (.goto 4, [10], 0)], 0, [false, false]),
  ([(.iconst 3, [], 3)], 10, [false, false]),
  ([(.ireturn, [0], 0)], 0, [false, false])]
/-- CourtProgress$Lodger.leastSum(I)I -/
def ai_c15 : List ai_Bk := [([(.aload_n 0, [], 0), (.getfield 49, [2, 1, 2, 20], 0), (.iload_n 1, [], 0), (.invokevirtual 59, [33, 2, 3, 0, 5], 0)], 1, [true, true]),
  ([(.ifCond .eq 41, [3], 0), (.aload_n 0, [], 0), (.getfield 49, [2, 1, 2, 20], 0), (.getfield 62, [3, 6, 2, 21], 0), (.iload_n 1, [], 0), (.iaload, [], 0), (.aload_n 0, [], 0), (.getfield 45, [2, 0, 2, 19], 0), (.getfield 65, [1, 0, 0, 22], 0), (.if_icmp .lt 22, [3], 0), (.aload_n 0, [], 0), (.getfield 45, [2, 0, 2, 19], 0), (.invokevirtual 69, [11, 1, 1, 0, 6], 0)], 2, [true, true]),
  ([(.aload_n 0, [], 0), (.getfield 49, [2, 1, 2, 20], 0), (.getfield 73, [3, 3, 2, 23], 0), (.iload_n 1, [], 0), (.iaload, [], 0), (.if_icmp .le 5, [4], 0)], 3, [true, true]),
  ([(.iconst (-1), [], (-1)), (.ireturn, [0], 0)], 0, [false, false]),
  ([(.aload_n 0, [], 0), (.iload_n 1, [], 0), (.iconst 1, [], 1), (.invokevirtual 76, [16, 3, 2, 0, 7], 0)], 5, [true, true]),
  ([(.ifCond .ne 5, [6], 0), (.iconst (-1), [], (-1)), (.ireturn, [0], 0)], 0, [true, true]),
  ([(.aload_n 0, [], 0), (.iload_n 1, [], 0), (.iconst 1, [], 1), (.iconst 1, [], 1), (.invokevirtual 80, [18, 4, 2, 0, 8], 0)], 7, [true, true]),
  ([(.aload_n 0, [], 0), (.ldc 84, [], 1000000), (.putfield 85, [2, 14, 0, 24], 0), (.aload_n 0, [], 0), (.iconst 0, [], 0), (.putfield 88, [2, 15, 0, 25], 0), (.aload_n 0, [], 0), (.iconst 0, [], 0), (.aload_n 0, [], 0), (.invokevirtual 91, [17, 1, 2, 0, 9], 0)], 8, [true, false]),
  ([(.iconst 0, [], 0), (.invokevirtual 94, [23, 4, 2, 0, 10], 0)], 9, [true, false]),
  ([(.aload_n 0, [], 0), (.getfield 85, [2, 14, 0, 24], 0), (.ireturn, [0], 0)], 0, [true, false])]
/-- CourtProgress$Lodger.isPossible(IZ)Z -/
def ai_c16 : List ai_Bk := [([(.aload_n 0, [], 0), (.iload_n 1, [], 0), (.iload_n 2, [], 0), (.iconst 0, [], 0), (.invokevirtual 80, [18, 4, 2, 0, 8], 0)], 1, [true, true, true]),
  ([(.aload_n 0, [], 0), (.iconst 1, [], 1), (.putfield 85, [2, 14, 0, 24], 0), (.aload_n 0, [], 0), (.iconst 0, [], 0), (.putfield 88, [2, 15, 0, 25], 0), (.aload_n 0, [], 0), (.iconst 0, [], 0), (.aload_n 0, [], 0), (.invokevirtual 91, [17, 1, 2, 0, 9], 0)], 2, [true, false, false]),
  ([(.iconst 0, [], 0), (.invokevirtual 94, [23, 4, 2, 0, 10], 0)], 3, [true, false, false]),
  ([(.aload_n 0, [], 0), (.getfield 85, [2, 14, 0, 24], 0), (.ifCond .ne 7, [4], 0), (.iconst 1, [], 1), (.goto 4, [5], 0)], 0, [true, false, false]),
  ([(.iconst 0, [], 0)], 5, [false, false, false]),
  ([(.ireturn, [1], 0)], 0, [false, false, false])]
/-- CourtProgress$Lodger.everyone()I -/
def ai_c17 : List ai_Bk := [([(.iconst 1, [], 1), (.aload_n 0, [], 0), (.getfield 45, [2, 0, 2, 19], 0), (.getfield 65, [1, 0, 0, 22], 0), (.ishl, [], 0), (.iconst 1, [], 1), (.isub, [], 0), (.ireturn, [0], 0)], 0, [true])]
/-- CourtProgress$Lodger.prepare(IZZ)V -/
def ai_c18 : List ai_Bk := [([(.aload_n 0, [], 0), (.aload_n 0, [], 0), (.getfield 49, [2, 1, 2, 20], 0), (.iload_n 1, [], 0), (.invokevirtual 59, [33, 2, 3, 0, 5], 0)], 1, [true, true, true, true, false, false]),
  ([(.ifCond .eq 15, [2], 0), (.aload_n 0, [], 0), (.getfield 49, [2, 1, 2, 20], 0), (.getfield 62, [3, 6, 2, 21], 0), (.iload_n 1, [], 0), (.iaload, [], 0), (.goto 4, [3], 0)], 0, [true, true, true, true, false, false]),
  ([(.iconst 0, [], 0)], 3, [true, true, true, true, false, false]),
  ([(.putfield 98, [2, 2, 0, 26], 0), (.iconst 0, [], 0), (.istore 4, [], 0)], 4, [true, true, true, true, false, false]),
  ([(.iload 4, [], 0), (.aload_n 0, [], 0), (.getfield 45, [2, 0, 2, 19], 0), (.getfield 65, [1, 0, 0, 22], 0), (.if_icmp .ge 49, [7], 0), (.aload_n 0, [], 0), (.getfield 33, [2, 10, 2, 15], 0), (.iload 4, [], 0), (.iload_n 3, [], 0), (.ifCond .eq 16, [5], 0), (.aload_n 0, [], 0), (.getfield 45, [2, 0, 2, 19], 0), (.getfield 100, [1, 2, 2, 27], 0), (.iload 4, [], 0), (.iaload, [], 0), (.goto 4, [6], 0)], 0, [true, true, true, true, true, false]),
  ([(.iconst 0, [], 0)], 6, [true, true, true, true, true, false]),
  ([(.iastore, [], 0), (.aload_n 0, [], 0), (.getfield 30, [2, 9, 2, 14], 0), (.iload 4, [], 0), (.iconst 1, [], 1), (.aload_n 0, [], 0), (.getfield 98, [2, 2, 0, 26], 0), (.ishl, [], 0), (.iconst 1, [], 1), (.isub, [], 0), (.iastore, [], 0), (.iinc 4 1, [], 1), (.goto (-55), [4], 0)], 0, [true, true, true, true, true, false]),
  ([(.aload_n 0, [], 0), (.iload_n 1, [], 0), (.invokevirtual 103, [19, 2, 2, 0, 11], 0)], 8, [true, true, true, true, false, false]),
  ([(.aload_n 0, [], 0), (.invokevirtual 107, [20, 1, 2, 0, 12], 0)], 9, [true, true, true, true, false, false]),
  ([(.iload_n 2, [], 0), (.ifCond .eq 17, [11], 0), (.aload_n 0, [], 0), (.getfield 45, [2, 0, 2, 19], 0), (.invokevirtual 110, [10, 1, 1, 0, 13], 0)], 10, [true, true, true, true, false, false]),
  ([(.ifCond .eq 7, [11], 0), (.iconst 1, [], 1), (.goto 4, [12], 0)], 0, [true, true, false, true, false, false]),
  ([(.iconst 0, [], 0)], 12, [true, true, false, true, false, false]),
  ([(.istore 4, [], 0), (.iconst 0, [], 0), (.istore 5, [], 0)], 13, [true, true, false, true, false, false]),
  ([(.iload 5, [], 0), (.aload_n 0, [], 0), (.getfield 98, [2, 2, 0, 26], 0), (.if_icmp .ge 19, [15], 0), (.aload_n 0, [], 0), (.iload_n 1, [], 0), (.iload 5, [], 0), (.iload 4, [], 0), (.iload_n 3, [], 0), (.invokevirtual 114, [21, 5, 2, 0, 14], 0)], 14, [true, true, false, true, true, true]),
  ([(.iinc 5 1, [], 1), (.goto (-22), [13], 0)], 0, [true, true, false, true, true, true]),
  ([(.return_, [], 0)], 0, [false, false, false, false, false, false])]
/-- CourtProgress$Lodger.sortRooms(I)V -/
def ai_c19 : List ai_Bk := [([(.iconst 0, [], 0), (.istore_n 2, [], 0)], 1, [true, true, false, false, false]),
  ([(.iload_n 2, [], 0), (.aload_n 0, [], 0), (.getfield 98, [2, 2, 0, 26], 0), (.if_icmp .ge 99, [4], 0), (.aload_n 0, [], 0), (.getfield 49, [2, 1, 2, 20], 0), (.getfield 118, [3, 9, 2, 28], 0), (.iload_n 1, [], 0), (.bipush 10, [], 10), (.imul, [], 0), (.iload_n 2, [], 0), (.iadd, [], 0), (.iaload, [], 0), (.istore_n 3, [], 0), (.iload_n 2, [], 0), (.istore 4, [], 0)], 2, [true, true, true, false, false]),
  ([(.iload 4, [], 0), (.ifCond .le 54, [3], 0), (.aload_n 0, [], 0), (.getfield 15, [2, 4, 2, 9], 0), (.iload 4, [], 0), (.iconst 1, [], 1), (.isub, [], 0), (.iaload, [], 0), (.iload_n 3, [], 0), (.if_icmp .le 41, [3], 0), (.aload_n 0, [], 0), (.getfield 15, [2, 4, 2, 9], 0), (.iload 4, [], 0), (.aload_n 0, [], 0), (.getfield 15, [2, 4, 2, 9], 0), (.iload 4, [], 0), (.iconst 1, [], 1), (.isub, [], 0), (.iaload, [], 0), (.iastore, [], 0), (.aload_n 0, [], 0), (.getfield 9, [2, 3, 2, 8], 0), (.iload 4, [], 0), (.aload_n 0, [], 0), (.getfield 9, [2, 3, 2, 8], 0), (.iload 4, [], 0), (.iconst 1, [], 1), (.isub, [], 0), (.iaload, [], 0), (.iastore, [], 0), (.iinc 4 (-1), [], (-1)), (.goto (-53), [2], 0)], 0, [true, true, true, true, true]),
  ([(.aload_n 0, [], 0), (.getfield 15, [2, 4, 2, 9], 0), (.iload 4, [], 0), (.iload_n 3, [], 0), (.iastore, [], 0), (.aload_n 0, [], 0), (.getfield 9, [2, 3, 2, 8], 0), (.iload 4, [], 0), (.iload_n 2, [], 0), (.iastore, [], 0), (.iinc 2 1, [], 1), (.goto (-101), [1], 0)], 0, [true, true, true, true, true]),
  ([(.return_, [], 0)], 0, [false, false, false, false, false])]
/-- CourtProgress$Lodger.sortHouseholds()V -/
def ai_c20 : List ai_Bk := [([(.iconst 0, [], 0), (.istore_n 1, [], 0)], 1, [true, false, false]),
  ([(.iload_n 1, [], 0), (.aload_n 0, [], 0), (.getfield 45, [2, 0, 2, 19], 0), (.getfield 65, [1, 0, 0, 22], 0), (.if_icmp .ge 64, [4], 0), (.iload_n 1, [], 0), (.istore_n 2, [], 0)], 2, [true, true, false]),
  ([(.iload_n 2, [], 0), (.ifCond .le 45, [3], 0), (.aload_n 0, [], 0), (.getfield 33, [2, 10, 2, 15], 0), (.aload_n 0, [], 0), (.getfield 36, [2, 11, 2, 16], 0), (.iload_n 2, [], 0), (.iconst 1, [], 1), (.isub, [], 0), (.iaload, [], 0), (.iaload, [], 0), (.aload_n 0, [], 0), (.getfield 33, [2, 10, 2, 15], 0), (.iload_n 1, [], 0), (.iaload, [], 0), (.if_icmp .ge 23, [3], 0), (.aload_n 0, [], 0), (.getfield 36, [2, 11, 2, 16], 0), (.iload_n 2, [], 0), (.aload_n 0, [], 0), (.getfield 36, [2, 11, 2, 16], 0), (.iload_n 2, [], 0), (.iconst 1, [], 1), (.isub, [], 0), (.iaload, [], 0), (.iastore, [], 0), (.iinc 2 (-1), [], (-1)), (.goto (-43), [2], 0)], 0, [true, true, true]),
  ([(.aload_n 0, [], 0), (.getfield 36, [2, 11, 2, 16], 0), (.iload_n 2, [], 0), (.iload_n 1, [], 0), (.iastore, [], 0), (.iinc 1 1, [], 1), (.goto (-69), [1], 0)], 0, [true, true, true]),
  ([(.return_, [], 0)], 0, [false, false, false])]
/-- CourtProgress$Lodger.relate(IIZZ)V -/
def ai_c21 : List ai_Bk := [([(.iload_n 1, [], 0), (.bipush 10, [], 10), (.imul, [], 0), (.aload_n 0, [], 0), (.getfield 9, [2, 3, 2, 8], 0), (.iload_n 2, [], 0), (.iaload, [], 0), (.iadd, [], 0), (.istore 5, [], 0), (.aload_n 0, [], 0), (.getfield 18, [2, 5, 2, 10], 0), (.iload_n 2, [], 0), (.iconst 0, [], 0), (.iastore, [], 0), (.aload_n 0, [], 0), (.getfield 21, [2, 6, 2, 11], 0), (.iload_n 2, [], 0), (.iconst 0, [], 0), (.iastore, [], 0), (.aload_n 0, [], 0), (.getfield 24, [2, 7, 2, 12], 0), (.iload_n 2, [], 0), (.iconst 0, [], 0), (.iastore, [], 0), (.aload_n 0, [], 0), (.getfield 27, [2, 8, 2, 13], 0), (.iload_n 2, [], 0), (.iconst 0, [], 0), (.iastore, [], 0), (.iconst 0, [], 0), (.istore 6, [], 0)], 1, [true, true, true, true, true, false, false, false, false, false, false]),
  ([(.iload 6, [], 0), (.aload_n 0, [], 0), (.getfield 98, [2, 2, 0, 26], 0), (.if_icmp .ge 257, [22], 0), (.iload_n 1, [], 0), (.bipush 10, [], 10), (.imul, [], 0), (.aload_n 0, [], 0), (.getfield 9, [2, 3, 2, 8], 0), (.iload 6, [], 0), (.iaload, [], 0), (.iadd, [], 0), (.istore 7, [], 0), (.aload_n 0, [], 0), (.getfield 49, [2, 1, 2, 20], 0), (.getfield 121, [3, 8, 2, 29], 0), (.iload 7, [], 0), (.iaload, [], 0), (.aload_n 0, [], 0), (.getfield 49, [2, 1, 2, 20], 0), (.getfield 121, [3, 8, 2, 29], 0), (.iload 5, [], 0), (.iaload, [], 0), (.if_icmp .ne 7, [2], 0), (.iconst 1, [], 1), (.goto 4, [3], 0)], 0, [true, true, true, true, true, true, true, false, false, false, false]),
  ([(.iconst 0, [], 0)], 3, [true, true, true, true, true, true, true, true, false, false, false]),
  ([(.istore 8, [], 0), (.iload_n 3, [], 0), (.ifCond .eq 26, [4], 0), (.aload_n 0, [], 0), (.getfield 49, [2, 1, 2, 20], 0), (.getfield 124, [3, 7, 2, 30], 0), (.iload 7, [], 0), (.iaload, [], 0), (.aload_n 0, [], 0), (.getfield 49, [2, 1, 2, 20], 0), (.getfield 124, [3, 7, 2, 30], 0), (.iload 5, [], 0), (.iaload, [], 0), (.if_icmp .ne 7, [5], 0)], 4, [true, true, true, true, true, true, true, true, false, false, false]),
  ([(.iconst 1, [], 1), (.goto 4, [6], 0)], 0, [true, true, true, true, true, true, true, true, true, false, false]),
  ([(.iconst 0, [], 0)], 6, [true, true, true, true, true, true, true, true, true, false, false]),
  ([(.istore 9, [], 0), (.iload 4, [], 0), (.ifCond .eq 19, [7], 0), (.aload_n 0, [], 0), (.getfield 15, [2, 4, 2, 9], 0), (.iload 6, [], 0), (.iaload, [], 0), (.aload_n 0, [], 0), (.getfield 15, [2, 4, 2, 9], 0), (.iload_n 2, [], 0), (.iaload, [], 0), (.if_icmp .ne 7, [8], 0)], 7, [true, true, true, true, true, true, true, true, true, false, false]),
  ([(.iconst 1, [], 1), (.goto 4, [9], 0)], 0, [true, true, true, true, true, true, true, true, true, true, false]),
  ([(.iconst 0, [], 0)], 9, [true, true, true, true, true, true, true, true, true, true, false]),
  ([(.istore 10, [], 0), (.aload_n 0, [], 0), (.getfield 18, [2, 5, 2, 10], 0), (.iload_n 2, [], 0), (.dup2, [], 0), (.iaload, [], 0), (.iload 8, [], 0), (.iload 6, [], 0), (.invokestatic 127, [22, 2, 999, 0, 15], 0)], 10, [true, true, true, true, true, true, true, true, true, true, false]),
  ([(.ior, [], 0), (.iastore, [], 0), (.aload_n 0, [], 0), (.getfield 21, [2, 6, 2, 11], 0), (.iload_n 2, [], 0), (.dup2, [], 0), (.iaload, [], 0), (.iload_n 3, [], 0), (.ifCond .eq 26, [11], 0), (.aload_n 0, [], 0), (.getfield 49, [2, 1, 2, 20], 0), (.getfield 124, [3, 7, 2, 30], 0), (.iload 7, [], 0), (.iaload, [], 0), (.aload_n 0, [], 0), (.getfield 49, [2, 1, 2, 20], 0), (.getfield 124, [3, 7, 2, 30], 0), (.iload 5, [], 0), (.iaload, [], 0), (.if_icmp .lt 7, [12], 0)], 11, [true, true, true, true, true, true, true, true, true, true, true]),
  ([(.iconst 1, [], 1), (.goto 4, [13], 0)], 0, [true, true, true, true, true, true, true, true, true, true, true]),
  ([(.iconst 0, [], 0)], 13, [true, true, true, true, true, true, true, true, true, true, true]),
  ([(.iload 6, [], 0), (.invokestatic 127, [22, 2, 999, 0, 15], 0)], 14, [true, true, true, true, true, true, true, true, true, true, true]),
  ([(.ior, [], 0), (.iastore, [], 0), (.aload_n 0, [], 0), (.getfield 24, [2, 7, 2, 12], 0), (.iload_n 2, [], 0), (.dup2, [], 0), (.iaload, [], 0), (.iload_n 3, [], 0), (.ifCond .eq 26, [15], 0), (.aload_n 0, [], 0), (.getfield 49, [2, 1, 2, 20], 0), (.getfield 124, [3, 7, 2, 30], 0), (.iload 7, [], 0), (.iaload, [], 0), (.aload_n 0, [], 0), (.getfield 49, [2, 1, 2, 20], 0), (.getfield 124, [3, 7, 2, 30], 0), (.iload 5, [], 0), (.iaload, [], 0), (.if_icmp .gt 7, [16], 0)], 15, [true, true, true, true, true, true, true, true, true, true, true]),
  ([(.iconst 1, [], 1), (.goto 4, [17], 0)], 0, [true, true, true, true, true, true, true, false, true, true, true]),
  ([(.iconst 0, [], 0)], 17, [true, true, true, true, true, true, true, false, true, true, true]),
  ([(.iload 6, [], 0), (.invokestatic 127, [22, 2, 999, 0, 15], 0)], 18, [true, true, true, true, true, true, true, false, true, true, true]),
  ([(.ior, [], 0), (.iastore, [], 0), (.aload_n 0, [], 0), (.getfield 27, [2, 8, 2, 13], 0), (.iload_n 2, [], 0), (.dup2, [], 0), (.iaload, [], 0), (.iload 8, [], 0), (.ifCond .eq 17, [19], 0), (.iload 9, [], 0), (.ifCond .eq 12, [19], 0), (.iload 10, [], 0), (.ifCond .eq 7, [19], 0), (.iconst 1, [], 1), (.goto 4, [20], 0)], 0, [true, true, true, true, true, true, true, false, true, true, true]),
  ([(.iconst 0, [], 0)], 20, [true, true, true, true, true, true, true, false, false, false, false]),
  ([(.iload 6, [], 0), (.invokestatic 127, [22, 2, 999, 0, 15], 0)], 21, [true, true, true, true, true, true, true, false, false, false, false]),
  ([(.ior, [], 0), (.iastore, [], 0), (.iinc 6 1, [], 1), (.goto (-260), [1], 0)], 0, [true, true, true, true, true, true, true, false, false, false, false]),
  ([(.return_, [], 0)], 0, [false, false, false, false, false, false, false, false, false, false, false])]
/-- CourtProgress$Lodger.bitIf(ZI)I -/
def ai_c22 : List ai_Bk := [([(.iload_n 0, [], 0), (.ifCond .eq 9, [1], 0), (.iconst 1, [], 1), (.iload_n 1, [], 0), (.ishl, [], 0), (.goto 4, [2], 0)], 0, [true, true]),
  ([(.iconst 0, [], 0)], 2, [false, false]),
  ([(.ireturn, [0], 0)], 0, [false, false])]
/-- CourtProgress$Lodger.search(III)V -/
def ai_c23 : List ai_Bk := [([(.iload_n 2, [], 0), (.ifCond .ne 9, [2], 0), (.aload_n 0, [], 0), (.iload_n 3, [], 0), (.invokevirtual 131, [24, 2, 2, 0, 16], 0)], 1, [true, true, true, true, false, false, false, false]),
  ([(.return_, [], 0)], 0, [false, false, false, false, false, false, false, false]),
  ([(.iload_n 1, [], 0), (.bipush 8, [], 8), (.if_icmp .ge 13, [4], 0), (.aload_n 0, [], 0), (.iload_n 1, [], 0), (.iload_n 2, [], 0), (.iload_n 3, [], 0), (.invokevirtual 134, [25, 4, 2, 0, 17], 0)], 3, [true, true, true, true, false, false, false, false]),
  ([(.goto 4, [5], 0)], 0, [true, true, true, true, false, false, false, false]),
  ([(.iconst (-1), [], (-1))], 5, [true, true, true, true, false, false, false, false]),
  ([(.istore 4, [], 0), (.iload 4, [], 0), (.iconst (-1), [], (-1)), (.if_icmp .ne 4, [6], 0), (.return_, [], 0)], 0, [true, true, true, true, false, false, false, false]),
  ([(.aload_n 0, [], 0), (.getfield 30, [2, 9, 2, 14], 0), (.iload_n 1, [], 0), (.bipush 8, [], 8), (.imul, [], 0), (.iload 4, [], 0), (.iadd, [], 0), (.iaload, [], 0), (.istore 5, [], 0), (.iload_n 2, [], 0), (.iconst 1, [], 1), (.iload 4, [], 0), (.ishl, [], 0), (.iconst (-1), [], (-1)), (.ixor, [], 0), (.iand, [], 0), (.istore 6, [], 0), (.iconst 0, [], 0), (.istore 7, [], 0)], 7, [true, true, true, true, true, false, false, false]),
  ([(.iload 7, [], 0), (.aload_n 0, [], 0), (.getfield 98, [2, 2, 0, 26], 0), (.if_icmp .ge 82, [10], 0), (.aload_n 0, [], 0), (.getfield 85, [2, 14, 0, 24], 0), (.aload_n 0, [], 0), (.getfield 88, [2, 15, 0, 25], 0), (.if_icmp .le 71, [10], 0), (.iload 5, [], 0), (.iload 7, [], 0), (.ishr, [], 0), (.iconst 1, [], 1), (.iand, [], 0), (.iconst 1, [], 1), (.if_icmp .ne 54, [9], 0), (.iload 5, [], 0), (.aload_n 0, [], 0), (.getfield 27, [2, 8, 2, 13], 0), (.iload 7, [], 0), (.iaload, [], 0), (.iconst (-1), [], (-1)), (.ixor, [], 0), (.iand, [], 0), (.istore 5, [], 0), (.aload_n 0, [], 0), (.iload_n 1, [], 0), (.iload 4, [], 0), (.iload 7, [], 0), (.iload 6, [], 0), (.invokevirtual 138, [28, 5, 2, 0, 18], 0)], 8, [true, true, false, true, true, true, true, true]),
  ([(.aload_n 0, [], 0), (.iload_n 1, [], 0), (.iconst 1, [], 1), (.iadd, [], 0), (.iload 6, [], 0), (.iload_n 3, [], 0), (.aload_n 0, [], 0), (.getfield 33, [2, 10, 2, 15], 0), (.iload 4, [], 0), (.iaload, [], 0), (.aload_n 0, [], 0), (.getfield 15, [2, 4, 2, 9], 0), (.iload 7, [], 0), (.iaload, [], 0), (.imul, [], 0), (.iadd, [], 0), (.invokevirtual 94, [23, 4, 2, 0, 10], 0)], 9, [true, true, false, true, true, true, true, true]),
  ([(.iinc 7 1, [], 1), (.goto (-85), [7], 0)], 0, [true, true, false, true, true, true, true, true]),
  ([(.return_, [], 0)], 0, [false, false, false, false, false, false, false, false])]
/-- CourtProgress$Lodger.keep(I)V -/
def ai_c24 : List ai_Bk := [([(.iload_n 1, [], 0), (.aload_n 0, [], 0), (.getfield 85, [2, 14, 0, 24], 0), (.if_icmp .ge 39, [2], 0), (.aload_n 0, [], 0), (.iload_n 1, [], 0), (.putfield 85, [2, 14, 0, 24], 0), (.iconst 0, [], 0), (.istore_n 2, [], 0)], 1, [true, true, false]),
  ([(.iload_n 2, [], 0), (.aload_n 0, [], 0), (.getfield 45, [2, 0, 2, 19], 0), (.getfield 65, [1, 0, 0, 22], 0), (.if_icmp .ge 21, [2], 0), (.aload_n 0, [], 0), (.getfield 42, [2, 13, 2, 18], 0), (.iload_n 2, [], 0), (.aload_n 0, [], 0), (.getfield 39, [2, 12, 2, 17], 0), (.iload_n 2, [], 0), (.iaload, [], 0), (.iastore, [], 0), (.iinc 2 1, [], 1), (.goto (-26), [1], 0)], 0, [true, false, true]),
  ([(.return_, [], 0)], 0, [false, false, false])]
/-- CourtProgress$Lodger.choose(III)I -/
def ai_c25 : List ai_Bk := [([(.iconst (-1), [], (-1)), (.istore 4, [], 0), (.iconst (-1), [], (-1)), (.istore 5, [], 0), (.iconst 0, [], 0), (.istore 6, [], 0), (.iload_n 3, [], 0), (.istore 7, [], 0), (.iconst 0, [], 0), (.istore 8, [], 0)], 1, [true, true, true, true, false, false, false, false, false, false, false, false]),
  ([(.iload 8, [], 0), (.aload_n 0, [], 0), (.getfield 45, [2, 0, 2, 19], 0), (.getfield 65, [1, 0, 0, 22], 0), (.if_icmp .ge 105, [6], 0), (.aload_n 0, [], 0), (.getfield 36, [2, 11, 2, 16], 0), (.iload 8, [], 0), (.iaload, [], 0), (.istore 9, [], 0), (.iload_n 2, [], 0), (.iload 9, [], 0), (.ishr, [], 0), (.iconst 1, [], 1), (.iand, [], 0), (.iconst 1, [], 1), (.if_icmp .ne 80, [5], 0), (.aload_n 0, [], 0), (.getfield 30, [2, 9, 2, 14], 0), (.iload_n 1, [], 0), (.bipush 8, [], 8), (.imul, [], 0), (.iload 9, [], 0), (.iadd, [], 0), (.iaload, [], 0), (.istore 10, [], 0), (.iload 10, [], 0), (.ifCond .ne 5, [2], 0), (.iconst (-1), [], (-1)), (.ireturn, [0], 0)], 0, [true, true, true, true, true, true, true, true, true, false, false, false]),
  ([(.iload 6, [], 0), (.iload 10, [], 0), (.ior, [], 0), (.istore 6, [], 0), (.iload 7, [], 0), (.aload_n 0, [], 0), (.getfield 33, [2, 10, 2, 15], 0), (.iload 9, [], 0), (.iaload, [], 0), (.aload_n 0, [], 0), (.getfield 15, [2, 4, 2, 9], 0), (.iload 10, [], 0), (.invokestatic 142, [143, 1, 999, 0, 19], 0)], 3, [true, true, true, true, true, true, true, true, true, true, true, false]),
  ([(.iaload, [], 0), (.imul, [], 0), (.iadd, [], 0), (.istore 7, [], 0), (.aload_n 0, [], 0), (.iload 9, [], 0), (.iload 10, [], 0), (.iload_n 2, [], 0), (.invokevirtual 146, [26, 4, 2, 0, 20], 0)], 4, [true, true, true, true, true, true, true, false, true, true, true, false]),
  ([(.istore 11, [], 0), (.iload 11, [], 0), (.iload 5, [], 0), (.if_icmp .le 11, [5], 0), (.iload 11, [], 0), (.istore 5, [], 0), (.iload 9, [], 0), (.istore 4, [], 0)], 5, [true, true, true, true, true, true, true, true, true, true, false, false]),
  ([(.iinc 8 1, [], 1), (.goto (-111), [1], 0)], 0, [true, true, true, true, true, true, true, true, true, false, false, false]),
  ([(.iload 7, [], 0), (.aload_n 0, [], 0), (.getfield 85, [2, 14, 0, 24], 0), (.if_icmp .ge 19, [8], 0), (.iload_n 3, [], 0), (.aload_n 0, [], 0), (.iload_n 2, [], 0), (.iload 6, [], 0), (.invokevirtual 149, [27, 3, 2, 0, 21], 0)], 7, [true, false, true, true, true, false, true, true, false, false, false, false]),
  ([(.iadd, [], 0), (.aload_n 0, [], 0), (.getfield 85, [2, 14, 0, 24], 0), (.if_icmp .lt 7, [9], 0)], 8, [true, false, false, false, true, false, false, false, false, false, false, false]),
  ([(.iconst 1, [], 1), (.goto 4, [10], 0)], 0, [false, false, false, false, true, false, false, false, false, false, false, false]),
  ([(.iconst 0, [], 0)], 10, [false, false, false, false, true, false, false, false, false, false, false, false]),
  ([(.istore 8, [], 0), (.iload 8, [], 0), (.ifCond .eq 7, [11], 0), (.iconst (-1), [], (-1)), (.goto 5, [12], 0)], 0, [false, false, false, false, true, false, false, false, false, false, false, false]),
  ([(.iload 4, [], 0)], 12, [false, false, false, false, true, false, false, false, false, false, false, false]),
  ([(.ireturn, [0], 0)], 0, [false, false, false, false, false, false, false, false, false, false, false, false])]
/-- CourtProgress$Lodger.hardship(III)I -/
def ai_c26 : List ai_Bk := [([(.bipush 10, [], 10), (.iload_n 2, [], 0), (.invokestatic 153, [210, 1, 999, 0, 22], 0)], 1, [true, true, true, true, false]),
  ([(.isub, [], 0), (.istore 4, [], 0), (.iload 4, [], 0), (.bipush 8, [], 8), (.imul, [], 0), (.aload_n 0, [], 0), (.getfield 45, [2, 0, 2, 19], 0), (.getfield 158, [1, 4, 2, 31], 0), (.iload_n 1, [], 0), (.iaload, [], 0), (.iload_n 3, [], 0), (.iand, [], 0), (.invokestatic 153, [210, 1, 999, 0, 22], 0)], 2, [true, true, false, true, false]),
  ([(.iadd, [], 0), (.ireturn, [0], 0)], 0, [false, false, false, false, false])]
/-- CourtProgress$Lodger.leastTogether(II)I -/
def ai_c27 : List ai_Bk := [([(.iconst 0, [], 0), (.istore_n 3, [], 0), (.iconst 0, [], 0), (.istore 4, [], 0), (.iconst 0, [], 0), (.istore 5, [], 0)], 1, [true, true, true, false, false, false, false]),
  ([(.iload 5, [], 0), (.aload_n 0, [], 0), (.getfield 45, [2, 0, 2, 19], 0), (.getfield 65, [1, 0, 0, 22], 0), (.if_icmp .ge 85, [6], 0), (.aload_n 0, [], 0), (.getfield 36, [2, 11, 2, 16], 0), (.iload 5, [], 0), (.iaload, [], 0), (.istore 6, [], 0), (.iload_n 1, [], 0), (.iload 6, [], 0), (.ishr, [], 0), (.iconst 1, [], 1), (.iand, [], 0), (.iconst 1, [], 1), (.if_icmp .ne 60, [5], 0)], 2, [true, true, true, true, true, true, false]),
  ([(.iload 4, [], 0), (.aload_n 0, [], 0), (.getfield 98, [2, 2, 0, 26], 0), (.if_icmp .ge 18, [3], 0), (.iload_n 2, [], 0), (.iload 4, [], 0), (.ishr, [], 0), (.iconst 1, [], 1), (.iand, [], 0), (.ifCond .ne 9, [3], 0), (.iinc 4 1, [], 1), (.goto (-21), [2], 0)], 0, [true, true, true, true, true, true, true]),
  ([(.iload 4, [], 0), (.aload_n 0, [], 0), (.getfield 98, [2, 2, 0, 26], 0), (.if_icmp .lt 6, [4], 0), (.ldc 84, [], 1000000), (.ireturn, [0], 0)], 0, [true, true, true, true, true, true, true]),
  ([(.iload_n 3, [], 0), (.aload_n 0, [], 0), (.getfield 33, [2, 10, 2, 15], 0), (.iload 6, [], 0), (.iaload, [], 0), (.aload_n 0, [], 0), (.getfield 15, [2, 4, 2, 9], 0), (.iload 4, [], 0), (.iaload, [], 0), (.imul, [], 0), (.iadd, [], 0), (.istore_n 3, [], 0), (.iinc 4 1, [], 1)], 5, [true, true, true, true, true, true, true]),
  ([(.iinc 5 1, [], 1), (.goto (-91), [1], 0)], 0, [true, true, true, true, true, true, false]),
  ([(.iload_n 3, [], 0), (.ireturn, [0], 0)], 0, [false, false, false, true, false, false, false])]
/-- CourtProgress$Lodger.give(IIII)V -/
def ai_c28 : List ai_Bk := [([(.aload_n 0, [], 0), (.getfield 39, [2, 12, 2, 17], 0), (.iload_n 2, [], 0), (.iload_n 3, [], 0), (.iastore, [], 0), (.iload_n 1, [], 0), (.bipush 8, [], 8), (.imul, [], 0), (.istore 5, [], 0), (.iconst 0, [], 0), (.istore 6, [], 0)], 1, [true, true, true, true, true, false, false, false]),
  ([(.iload 6, [], 0), (.aload_n 0, [], 0), (.getfield 45, [2, 0, 2, 19], 0), (.getfield 65, [1, 0, 0, 22], 0), (.if_icmp .ge 153, [6], 0), (.iload 4, [], 0), (.iload 6, [], 0), (.ishr, [], 0), (.iconst 1, [], 1), (.iand, [], 0), (.iconst 1, [], 1), (.if_icmp .ne 136, [5], 0), (.aload_n 0, [], 0), (.getfield 30, [2, 9, 2, 14], 0), (.iload 5, [], 0), (.iload 6, [], 0), (.iadd, [], 0), (.iaload, [], 0), (.iconst 1, [], 1), (.iload_n 3, [], 0), (.ishl, [], 0), (.iconst (-1), [], (-1)), (.ixor, [], 0), (.iand, [], 0), (.istore 7, [], 0), (.aload_n 0, [], 0), (.getfield 45, [2, 0, 2, 19], 0), (.getfield 158, [1, 4, 2, 31], 0), (.iload_n 2, [], 0), (.iaload, [], 0), (.iload 6, [], 0), (.ishr, [], 0), (.iconst 1, [], 1), (.iand, [], 0), (.iconst 1, [], 1), (.if_icmp .ne 16, [2], 0), (.iload 7, [], 0), (.aload_n 0, [], 0), (.getfield 18, [2, 5, 2, 10], 0), (.iload_n 3, [], 0), (.iaload, [], 0), (.iconst (-1), [], (-1)), (.ixor, [], 0), (.iand, [], 0), (.istore 7, [], 0)], 2, [true, false, true, true, true, true, true, false]),
  ([(.aload_n 0, [], 0), (.getfield 45, [2, 0, 2, 19], 0), (.getfield 161, [1, 1, 2, 32], 0), (.iload 6, [], 0), (.iaload, [], 0), (.aload_n 0, [], 0), (.getfield 45, [2, 0, 2, 19], 0), (.getfield 161, [1, 1, 2, 32], 0), (.iload_n 2, [], 0), (.iaload, [], 0), (.if_icmp .le 17, [3], 0), (.iload 7, [], 0), (.aload_n 0, [], 0), (.getfield 21, [2, 6, 2, 11], 0), (.iload_n 3, [], 0), (.iaload, [], 0), (.iand, [], 0), (.istore 7, [], 0), (.goto 36, [4], 0)], 0, [true, false, true, true, true, true, true, true]),
  ([(.aload_n 0, [], 0), (.getfield 45, [2, 0, 2, 19], 0), (.getfield 161, [1, 1, 2, 32], 0), (.iload 6, [], 0), (.iaload, [], 0), (.aload_n 0, [], 0), (.getfield 45, [2, 0, 2, 19], 0), (.getfield 161, [1, 1, 2, 32], 0), (.iload_n 2, [], 0), (.iaload, [], 0), (.if_icmp .ge 14, [4], 0), (.iload 7, [], 0), (.aload_n 0, [], 0), (.getfield 24, [2, 7, 2, 12], 0), (.iload_n 3, [], 0), (.iaload, [], 0), (.iand, [], 0), (.istore 7, [], 0)], 4, [true, false, true, true, true, true, true, true]),
  ([(.aload_n 0, [], 0), (.getfield 30, [2, 9, 2, 14], 0), (.iload 5, [], 0), (.bipush 8, [], 8), (.iadd, [], 0), (.iload 6, [], 0), (.iadd, [], 0), (.iload 7, [], 0), (.iastore, [], 0)], 5, [true, false, true, true, true, true, true, true]),
  ([(.iinc 6 1, [], 1), (.goto (-159), [1], 0)], 0, [true, false, true, true, true, true, true, false]),
  ([(.return_, [], 0)], 0, [false, false, false, false, false, false, false, false])]
/-- CourtProgress$Lodger.preferLesserRooms(I)V -/
def ai_c29 : List ai_Bk := [([(.aload_n 0, [], 0), (.invokevirtual 91, [17, 1, 2, 0, 9], 0)], 1, [true, true, false, false, false]),
  ([(.istore_n 2, [], 0), (.iconst 0, [], 0), (.istore_n 3, [], 0), (.iconst 0, [], 0), (.istore 4, [], 0)], 2, [true, true, false, false, false]),
  ([(.iload 4, [], 0), (.aload_n 0, [], 0), (.getfield 45, [2, 0, 2, 19], 0), (.getfield 65, [1, 0, 0, 22], 0), (.if_icmp .ge 66, [5], 0), (.iload_n 2, [], 0), (.iconst 1, [], 1), (.iload 4, [], 0), (.ishl, [], 0), (.iconst (-1), [], (-1)), (.ixor, [], 0), (.iand, [], 0), (.istore_n 2, [], 0), (.aload_n 0, [], 0), (.iload 4, [], 0), (.iload_n 2, [], 0), (.iload_n 3, [], 0), (.iload_n 1, [], 0), (.invokevirtual 164, [30, 5, 2, 0, 23], 0)], 3, [true, true, true, true, true]),
  ([(.aload_n 0, [], 0), (.iload 4, [], 0), (.iload 4, [], 0), (.aload_n 0, [], 0), (.getfield 42, [2, 13, 2, 18], 0), (.iload 4, [], 0), (.iaload, [], 0), (.iload_n 2, [], 0), (.invokevirtual 138, [28, 5, 2, 0, 18], 0)], 4, [true, true, true, true, true]),
  ([(.iload_n 3, [], 0), (.aload_n 0, [], 0), (.getfield 33, [2, 10, 2, 15], 0), (.iload 4, [], 0), (.iaload, [], 0), (.aload_n 0, [], 0), (.getfield 15, [2, 4, 2, 9], 0), (.aload_n 0, [], 0), (.getfield 42, [2, 13, 2, 18], 0), (.iload 4, [], 0), (.iaload, [], 0), (.iaload, [], 0), (.imul, [], 0), (.iadd, [], 0), (.istore_n 3, [], 0), (.iinc 4 1, [], 1), (.goto (-72), [2], 0)], 0, [true, true, true, true, true]),
  ([(.return_, [], 0)], 0, [false, false, false, false, false])]
/-- CourtProgress$Lodger.findLesserRoom(IIII)V -/
def ai_c30 : List ai_Bk := [([(.aload_n 0, [], 0), (.getfield 9, [2, 3, 2, 8], 0), (.aload_n 0, [], 0), (.getfield 42, [2, 13, 2, 18], 0), (.iload_n 1, [], 0), (.iaload, [], 0), (.iaload, [], 0), (.istore 5, [], 0), (.iconst 0, [], 0), (.istore 6, [], 0)], 1, [true, true, true, true, true, false, false, false]),
  ([(.iload 6, [], 0), (.iload 5, [], 0), (.if_icmp .ge 94, [6], 0), (.aload_n 0, [], 0), (.iload 6, [], 0), (.invokevirtual 167, [31, 2, 2, 0, 24], 0)], 2, [true, true, true, true, true, true, true, false]),
  ([(.istore 7, [], 0), (.aload_n 0, [], 0), (.getfield 30, [2, 9, 2, 14], 0), (.iload_n 1, [], 0), (.bipush 8, [], 8), (.imul, [], 0), (.iload_n 1, [], 0), (.iadd, [], 0), (.iaload, [], 0), (.iload 7, [], 0), (.ishr, [], 0), (.iconst 1, [], 1), (.iand, [], 0), (.iconst 1, [], 1), (.if_icmp .ne 60, [5], 0), (.aload_n 0, [], 0), (.iload 4, [], 0), (.iconst 1, [], 1), (.iadd, [], 0), (.putfield 85, [2, 14, 0, 24], 0), (.aload_n 0, [], 0), (.iload 4, [], 0), (.putfield 88, [2, 15, 0, 25], 0), (.aload_n 0, [], 0), (.iload_n 1, [], 0), (.iload_n 1, [], 0), (.iload 7, [], 0), (.iload_n 2, [], 0), (.invokevirtual 138, [28, 5, 2, 0, 18], 0)], 3, [true, true, true, true, true, true, true, false]),
  ([(.aload_n 0, [], 0), (.iload_n 1, [], 0), (.iconst 1, [], 1), (.iadd, [], 0), (.iload_n 2, [], 0), (.iload_n 3, [], 0), (.aload_n 0, [], 0), (.getfield 33, [2, 10, 2, 15], 0), (.iload_n 1, [], 0), (.iaload, [], 0), (.aload_n 0, [], 0), (.getfield 15, [2, 4, 2, 9], 0), (.iload 7, [], 0), (.iaload, [], 0), (.imul, [], 0), (.iadd, [], 0), (.invokevirtual 94, [23, 4, 2, 0, 10], 0)], 4, [true, true, true, true, true, true, true, true]),
  ([(.aload_n 0, [], 0), (.getfield 85, [2, 14, 0, 24], 0), (.iload 4, [], 0), (.if_icmp .ne 4, [5], 0), (.return_, [], 0)], 0, [true, true, true, true, true, true, true, false]),
  ([(.iinc 6 1, [], 1), (.goto (-95), [1], 0)], 0, [true, true, true, true, true, true, true, false]),
  ([(.return_, [], 0)], 0, [false, false, false, false, false, false, false, false])]
/-- CourtProgress$Lodger.spotOfRoom(I)I -/
def ai_c31 : List ai_Bk := [([(.iconst 0, [], 0), (.istore_n 2, [], 0), (.iconst 0, [], 0), (.istore_n 3, [], 0)], 1, [true, true, false, false]),
  ([(.iload_n 3, [], 0), (.aload_n 0, [], 0), (.getfield 98, [2, 2, 0, 26], 0), (.if_icmp .ge 21, [3], 0), (.aload_n 0, [], 0), (.getfield 9, [2, 3, 2, 8], 0), (.iload_n 3, [], 0), (.iaload, [], 0), (.iload_n 1, [], 0), (.if_icmp .ne 5, [2], 0), (.iload_n 3, [], 0), (.istore_n 2, [], 0)], 2, [true, true, true, true]),
  ([(.iinc 3 1, [], 1), (.goto (-23), [1], 0)], 0, [true, true, true, true]),
  ([(.iload_n 2, [], 0), (.ireturn, [0], 0)], 0, [false, false, true, false])]
/-- CourtProgress$Places.<init>()V -/
def ai_c32 : List ai_Bk := [([(.aload_n 0, [], 0), (.invokespecial 3, [998, 1, 999, 0, 0], 0), (.aload_n 0, [], 0), (.bipush 9, [], 9), (.newarray .int, [1], 0), (.putfield 9, [3, 1, 2, 33], 0), (.aload_n 0, [], 0), (.bipush 9, [], 9), (.newarray .int, [1], 0), (.putfield 15, [3, 2, 2, 34], 0), (.aload_n 0, [], 0), (.bipush 9, [], 9), (.newarray .int, [1], 0), (.putfield 18, [3, 3, 2, 35], 0), (.aload_n 0, [], 0), (.bipush 9, [], 9), (.newarray .int, [1], 0), (.putfield 21, [3, 4, 2, 36], 0), (.aload_n 0, [], 0), (.bipush 9, [], 9), (.newarray .int, [1], 0), (.putfield 24, [3, 5, 2, 37], 0), (.aload_n 0, [], 0), (.bipush 9, [], 9), (.newarray .int, [1], 0), (.putfield 27, [3, 6, 2, 38], 0), (.aload_n 0, [], 0), (.bipush 90, [], 90), (.newarray .int, [1], 0), (.putfield 30, [3, 7, 2, 39], 0), (.aload_n 0, [], 0), (.bipush 90, [], 90), (.newarray .int, [1], 0), (.putfield 33, [3, 8, 2, 40], 0), (.aload_n 0, [], 0), (.bipush 90, [], 90), (.newarray .int, [1], 0), (.putfield 36, [3, 9, 2, 41], 0), (.aload_n 0, [], 0), (.bipush 81, [], 81), (.newarray .int, [1], 0), (.putfield 39, [3, 10, 2, 42], 0), (.return_, [], 0)], 0, [true])]
/-- CourtProgress$Places.has(I)Z -/
def ai_c33 : List ai_Bk := [([(.iload_n 1, [], 0), (.ifCond .lt 15, [1], 0), (.iload_n 1, [], 0), (.aload_n 0, [], 0), (.getfield 42, [3, 0, 0, 43], 0), (.if_icmp .ge 7, [1], 0), (.iconst 1, [], 1), (.goto 4, [2], 0)], 0, [true, true]),
  ([(.iconst 0, [], 0)], 2, [false, false]),
  ([(.ireturn, [1], 0)], 0, [false, false])]
/-- CourtProgress$Places.add(III)I -/
def ai_c34 : List ai_Bk := [([(.aload_n 0, [], 0), (.getfield 42, [3, 0, 0, 43], 0), (.bipush 9, [], 9), (.if_icmp .lt 5, [1], 0), (.iconst (-1), [], (-1)), (.ireturn, [0], 0)], 0, [true, true, true, true]),
  ([(.aload_n 0, [], 0), (.getfield 9, [3, 1, 2, 33], 0), (.aload_n 0, [], 0), (.getfield 42, [3, 0, 0, 43], 0), (.iload_n 1, [], 0), (.iastore, [], 0), (.aload_n 0, [], 0), (.getfield 15, [3, 2, 2, 34], 0), (.aload_n 0, [], 0), (.getfield 42, [3, 0, 0, 43], 0), (.iload_n 2, [], 0), (.iastore, [], 0), (.aload_n 0, [], 0), (.getfield 18, [3, 3, 2, 35], 0), (.aload_n 0, [], 0), (.getfield 42, [3, 0, 0, 43], 0), (.iload_n 3, [], 0), (.iastore, [], 0), (.aload_n 0, [], 0), (.dup, [], 0), (.getfield 42, [3, 0, 0, 43], 0), (.iconst 1, [], 1), (.iadd, [], 0), (.putfield 42, [3, 0, 0, 43], 0), (.aload_n 0, [], 0), (.getfield 42, [3, 0, 0, 43], 0), (.iconst 1, [], 1), (.isub, [], 0), (.ireturn, [0], 0)], 0, [true, true, true, true])]
/-- CourtProgress$Places.addRoom(IIII)I -/
def ai_c35 : List ai_Bk := [([(.aload_n 0, [], 0), (.iload_n 1, [], 0), (.invokevirtual 46, [33, 2, 3, 0, 25], 0)], 1, [true, true, true, true, true, false]),
  ([(.ifCond .eq 14, [2], 0), (.aload_n 0, [], 0), (.getfield 27, [3, 6, 2, 38], 0), (.iload_n 1, [], 0), (.iaload, [], 0), (.bipush 10, [], 10), (.if_icmp .lt 5, [3], 0)], 2, [true, true, true, true, true, false]),
  ([(.iconst (-1), [], (-1)), (.ireturn, [0], 0)], 0, [false, false, false, false, false, false]),
  ([(.iload_n 1, [], 0), (.bipush 10, [], 10), (.imul, [], 0), (.aload_n 0, [], 0), (.getfield 27, [3, 6, 2, 38], 0), (.iload_n 1, [], 0), (.iaload, [], 0), (.iadd, [], 0), (.istore 5, [], 0), (.aload_n 0, [], 0), (.getfield 30, [3, 7, 2, 39], 0), (.iload 5, [], 0), (.iload_n 2, [], 0), (.iastore, [], 0), (.aload_n 0, [], 0), (.getfield 33, [3, 8, 2, 40], 0), (.iload 5, [], 0), (.iload_n 3, [], 0), (.iastore, [], 0), (.aload_n 0, [], 0), (.getfield 36, [3, 9, 2, 41], 0), (.iload 5, [], 0), (.iload 4, [], 0), (.iastore, [], 0), (.aload_n 0, [], 0), (.getfield 27, [3, 6, 2, 38], 0), (.iload_n 1, [], 0), (.dup2, [], 0), (.iaload, [], 0), (.iconst 1, [], 1), (.iadd, [], 0), (.iastore, [], 0), (.aload_n 0, [], 0), (.getfield 27, [3, 6, 2, 38], 0), (.iload_n 1, [], 0), (.iaload, [], 0), (.iconst 1, [], 1), (.isub, [], 0), (.ireturn, [0], 0)], 0, [true, true, true, true, true, false])]
/-- CourtProgress$Places.setWay(III)V -/
def ai_c36 : List ai_Bk := [([(.aload_n 0, [], 0), (.iload_n 1, [], 0), (.invokevirtual 46, [33, 2, 3, 0, 25], 0)], 1, [true, true, true, true]),
  ([(.ifCond .eq 35, [3], 0), (.aload_n 0, [], 0), (.iload_n 2, [], 0), (.invokevirtual 46, [33, 2, 3, 0, 25], 0)], 2, [true, true, true, true]),
  ([(.ifCond .eq 27, [3], 0), (.aload_n 0, [], 0), (.getfield 39, [3, 10, 2, 42], 0), (.iload_n 1, [], 0), (.bipush 9, [], 9), (.imul, [], 0), (.iload_n 2, [], 0), (.iadd, [], 0), (.iload_n 3, [], 0), (.iastore, [], 0), (.aload_n 0, [], 0), (.getfield 39, [3, 10, 2, 42], 0), (.iload_n 2, [], 0), (.bipush 9, [], 9), (.imul, [], 0), (.iload_n 1, [], 0), (.iadd, [], 0), (.iload_n 3, [], 0), (.iastore, [], 0)], 3, [true, true, true, true]),
  ([(.return_, [], 0)], 0, [false, false, false, false])]
/-- CourtProgress$Places.hoursOn(III)I -/
def ai_c37 : List ai_Bk := [([(.aload_n 0, [], 0), (.iload_n 1, [], 0), (.invokevirtual 46, [33, 2, 3, 0, 25], 0)], 1, [true, true, true, true, false]),
  ([(.ifCond .eq 11, [3], 0), (.aload_n 0, [], 0), (.iload_n 2, [], 0), (.invokevirtual 46, [33, 2, 3, 0, 25], 0)], 2, [true, true, true, true, false]),
  ([(.ifCond .ne 5, [4], 0)], 3, [true, true, true, true, false]),
  ([(.iconst 0, [], 0), (.ireturn, [0], 0)], 0, [false, false, false, false, false]),
  ([(.aload_n 0, [], 0), (.getfield 39, [3, 10, 2, 42], 0), (.iload_n 1, [], 0), (.bipush 9, [], 9), (.imul, [], 0), (.iload_n 2, [], 0), (.iadd, [], 0), (.iaload, [], 0), (.iconst 4, [], 4), (.iload_n 3, [], 0), (.iadd, [], 0), (.imul, [], 0), (.iconst 4, [], 4), (.idiv, [], 0), (.istore 4, [], 0), (.iload 4, [], 0), (.bipush 16, [], 16), (.if_icmp .le 7, [5], 0), (.iconst 0, [], 0), (.goto 5, [6], 0)], 0, [true, true, true, true, false]),
  ([(.iload 4, [], 0)], 6, [false, false, false, false, true]),
  ([(.ireturn, [0], 0)], 0, [false, false, false, false, false])]
/-- CourtProgress$Places.supply(I)I -/
def ai_c38 : List ai_Bk := [([(.aload_n 0, [], 0), (.iload_n 1, [], 0), (.invokevirtual 46, [33, 2, 3, 0, 25], 0)], 1, [true, true]),
  ([(.ifCond .eq 21, [3], 0), (.aload_n 0, [], 0), (.getfield 9, [3, 1, 2, 33], 0), (.iload_n 1, [], 0), (.iaload, [], 0), (.aload_n 0, [], 0), (.getfield 15, [3, 2, 2, 34], 0), (.iload_n 1, [], 0), (.iaload, [], 0), (.invokestatic 50, [212, 2, 999, 0, 26], 0)], 2, [true, true]),
  ([(.goto 4, [4], 0)], 0, [false, false]),
  ([(.iconst 0, [], 0)], 4, [false, false]),
  ([(.ireturn, [0], 0)], 0, [false, false])]
/-- CourtProgress$Places.take(II)I -/
def ai_c39 : List ai_Bk := [([(.aload_n 0, [], 0), (.iload_n 1, [], 0), (.invokevirtual 46, [33, 2, 3, 0, 25], 0)], 1, [true, true, true, false]),
  ([(.ifCond .ne 5, [2], 0), (.iload_n 2, [], 0), (.ireturn, [0], 0)], 0, [true, true, true, false]),
  ([(.iload_n 2, [], 0), (.aload_n 0, [], 0), (.iload_n 1, [], 0), (.invokevirtual 56, [38, 2, 3, 0, 27], 0)], 3, [true, true, true, false]),
  ([(.invokestatic 50, [212, 2, 999, 0, 26], 0)], 4, [true, true, true, false]),
  ([(.istore_n 3, [], 0), (.aload_n 0, [], 0), (.getfield 9, [3, 1, 2, 33], 0), (.iload_n 1, [], 0), (.dup2, [], 0), (.iaload, [], 0), (.iload_n 3, [], 0), (.isub, [], 0), (.iastore, [], 0), (.aload_n 0, [], 0), (.getfield 15, [3, 2, 2, 34], 0), (.iload_n 1, [], 0), (.dup2, [], 0), (.iaload, [], 0), (.iload_n 3, [], 0), (.isub, [], 0), (.iastore, [], 0), (.aload_n 0, [], 0), (.getfield 21, [3, 4, 2, 36], 0), (.iload_n 1, [], 0), (.dup2, [], 0), (.iaload, [], 0), (.iload_n 3, [], 0), (.iadd, [], 0), (.iastore, [], 0), (.aload_n 0, [], 0), (.getfield 24, [3, 5, 2, 37], 0), (.iload_n 1, [], 0), (.dup2, [], 0), (.iaload, [], 0), (.iconst 1, [], 1), (.iadd, [], 0), (.iastore, [], 0), (.iload_n 2, [], 0), (.iload_n 3, [], 0), (.isub, [], 0), (.ireturn, [0], 0)], 0, [true, true, true, false])]
/-- CourtProgress$Places.fact(II)I -/
def ai_c40 : List ai_Bk := [([(.aload_n 0, [], 0), (.iload_n 1, [], 0), (.invokevirtual 46, [33, 2, 3, 0, 25], 0)], 1, [true, true, true]),
  ([(.ifCond .ne 5, [2], 0), (.iconst (-1), [], (-1)), (.ireturn, [0], 0)], 0, [true, true, true]),
  ([(.iload_n 2, [], 0), (.tableswitch 68 0 4 #[33, 40, 47, 54, 61], [8, 3, 4, 5, 6, 7], 0)], 0, [true, true, true]),
  ([(.aload_n 0, [], 0), (.getfield 9, [3, 1, 2, 33], 0), (.iload_n 1, [], 0), (.iaload, [], 0), (.ireturn, [0], 0)], 0, [true, true, false]),
  ([(.aload_n 0, [], 0), (.getfield 15, [3, 2, 2, 34], 0), (.iload_n 1, [], 0), (.iaload, [], 0), (.ireturn, [0], 0)], 0, [true, true, false]),
  ([(.aload_n 0, [], 0), (.getfield 21, [3, 4, 2, 36], 0), (.iload_n 1, [], 0), (.iaload, [], 0), (.ireturn, [0], 0)], 0, [true, true, false]),
  ([(.aload_n 0, [], 0), (.getfield 27, [3, 6, 2, 38], 0), (.iload_n 1, [], 0), (.iaload, [], 0), (.ireturn, [0], 0)], 0, [true, true, false]),
  ([(.aload_n 0, [], 0), (.getfield 24, [3, 5, 2, 37], 0), (.iload_n 1, [], 0), (.iaload, [], 0), (.ireturn, [0], 0)], 0, [true, true, false]),
  ([(.iconst (-1), [], (-1)), (.ireturn, [0], 0)], 0, [false, false, false])]
/-- CourtProgress$Pleas.<init>()V -/
def ai_c41 : List ai_Bk := [([(.aload_n 0, [], 0), (.invokespecial 3, [998, 1, 999, 0, 0], 0), (.aload_n 0, [], 0), (.bipush 60, [], 60), (.newarray .int, [1], 0), (.putfield 11, [4, 2, 2, 44], 0), (.aload_n 0, [], 0), (.bipush 60, [], 60), (.newarray .int, [1], 0), (.putfield 15, [4, 3, 2, 45], 0), (.aload_n 0, [], 0), (.bipush 60, [], 60), (.newarray .int, [1], 0), (.putfield 18, [4, 4, 2, 46], 0), (.return_, [], 0)], 0, [true])]
/-- CourtProgress$Pleas.add(II)I -/
def ai_c42 : List ai_Bk := [([(.aload_n 0, [], 0), (.getfield 21, [4, 0, 0, 47], 0), (.bipush 60, [], 60), (.if_icmp .lt 5, [1], 0), (.iconst (-1), [], (-1)), (.ireturn, [0], 0)], 0, [true, true, true, false]),
  ([(.aload_n 0, [], 0), (.getfield 11, [4, 2, 2, 44], 0), (.aload_n 0, [], 0), (.getfield 21, [4, 0, 0, 47], 0), (.iload_n 1, [], 0), (.iload_n 2, [], 0), (.isub, [], 0), (.iastore, [], 0), (.aload_n 0, [], 0), (.getfield 15, [4, 3, 2, 45], 0), (.aload_n 0, [], 0), (.getfield 21, [4, 0, 0, 47], 0), (.bipush (-2), [], (-2)), (.iastore, [], 0), (.aload_n 0, [], 0), (.getfield 25, [4, 1, 0, 48], 0), (.istore_n 3, [], 0)], 2, [true, true, true, false]),
  ([(.iload_n 3, [], 0), (.ifCond .le 48, [3], 0), (.aload_n 0, [], 0), (.getfield 11, [4, 2, 2, 44], 0), (.aload_n 0, [], 0), (.getfield 18, [4, 4, 2, 46], 0), (.iload_n 3, [], 0), (.iconst 1, [], 1), (.isub, [], 0), (.iaload, [], 0), (.iaload, [], 0), (.aload_n 0, [], 0), (.getfield 11, [4, 2, 2, 44], 0), (.aload_n 0, [], 0), (.getfield 21, [4, 0, 0, 47], 0), (.iaload, [], 0), (.if_icmp .ge 23, [3], 0), (.aload_n 0, [], 0), (.getfield 18, [4, 4, 2, 46], 0), (.iload_n 3, [], 0), (.aload_n 0, [], 0), (.getfield 18, [4, 4, 2, 46], 0), (.iload_n 3, [], 0), (.iconst 1, [], 1), (.isub, [], 0), (.iaload, [], 0), (.iastore, [], 0), (.iinc 3 (-1), [], (-1)), (.goto (-46), [2], 0)], 0, [true, false, false, true]),
  ([(.aload_n 0, [], 0), (.getfield 18, [4, 4, 2, 46], 0), (.iload_n 3, [], 0), (.aload_n 0, [], 0), (.getfield 21, [4, 0, 0, 47], 0), (.iastore, [], 0), (.aload_n 0, [], 0), (.dup, [], 0), (.getfield 25, [4, 1, 0, 48], 0), (.iconst 1, [], 1), (.iadd, [], 0), (.putfield 25, [4, 1, 0, 48], 0), (.aload_n 0, [], 0), (.dup, [], 0), (.getfield 21, [4, 0, 0, 47], 0), (.iconst 1, [], 1), (.iadd, [], 0), (.putfield 21, [4, 0, 0, 47], 0), (.aload_n 0, [], 0), (.getfield 21, [4, 0, 0, 47], 0), (.iconst 1, [], 1), (.isub, [], 0), (.ireturn, [0], 0)], 0, [true, false, false, true])]
/-- CourtProgress$Pleas.hearFirst(II)I -/
def ai_c43 : List ai_Bk := [([(.iload_n 1, [], 0), (.aload_n 0, [], 0), (.getfield 25, [4, 1, 0, 48], 0), (.invokestatic 28, [212, 2, 999, 0, 28], 0)], 1, [true, true, true, false, false]),
  ([(.istore_n 3, [], 0), (.iconst 0, [], 0), (.istore 4, [], 0)], 2, [true, false, true, false, false]),
  ([(.iload 4, [], 0), (.iload_n 3, [], 0), (.if_icmp .ge 22, [3], 0), (.aload_n 0, [], 0), (.getfield 15, [4, 3, 2, 45], 0), (.aload_n 0, [], 0), (.getfield 18, [4, 4, 2, 46], 0), (.iload 4, [], 0), (.iaload, [], 0), (.iload_n 2, [], 0), (.iastore, [], 0), (.iinc 4 1, [], 1), (.goto (-22), [2], 0)], 0, [true, false, true, true, true]),
  ([(.iload_n 3, [], 0), (.istore 4, [], 0)], 4, [true, false, false, true, false]),
  ([(.iload 4, [], 0), (.aload_n 0, [], 0), (.getfield 25, [4, 1, 0, 48], 0), (.if_icmp .ge 25, [5], 0), (.aload_n 0, [], 0), (.getfield 18, [4, 4, 2, 46], 0), (.iload 4, [], 0), (.iload_n 3, [], 0), (.isub, [], 0), (.aload_n 0, [], 0), (.getfield 18, [4, 4, 2, 46], 0), (.iload 4, [], 0), (.iaload, [], 0), (.iastore, [], 0), (.iinc 4 1, [], 1), (.goto (-28), [4], 0)], 0, [true, false, false, true, true]),
  ([(.aload_n 0, [], 0), (.dup, [], 0), (.getfield 25, [4, 1, 0, 48], 0), (.iload_n 3, [], 0), (.isub, [], 0), (.putfield 25, [4, 1, 0, 48], 0), (.iload_n 3, [], 0), (.ireturn, [0], 0)], 0, [true, false, false, true, false])]
/-- CourtProgress$Pleas.dayHeard(I)I -/
def ai_c44 : List ai_Bk := [([(.iload_n 1, [], 0), (.ifCond .lt 20, [1], 0), (.iload_n 1, [], 0), (.aload_n 0, [], 0), (.getfield 21, [4, 0, 0, 47], 0), (.if_icmp .ge 12, [1], 0), (.aload_n 0, [], 0), (.getfield 15, [4, 3, 2, 45], 0), (.iload_n 1, [], 0), (.iaload, [], 0), (.goto 4, [2], 0)], 0, [true, true]),
  ([(.iconst (-1), [], (-1))], 2, [false, false]),
  ([(.ireturn, [0], 0)], 0, [false, false])]
/-- CourtProgress$Pleas.inTurn(I)I -/
def ai_c45 : List ai_Bk := [([(.iload_n 1, [], 0), (.ifCond .lt 20, [1], 0), (.iload_n 1, [], 0), (.aload_n 0, [], 0), (.getfield 25, [4, 1, 0, 48], 0), (.if_icmp .ge 12, [1], 0), (.aload_n 0, [], 0), (.getfield 18, [4, 4, 2, 46], 0), (.iload_n 1, [], 0), (.iaload, [], 0), (.goto 4, [2], 0)], 0, [true, true]),
  ([(.iconst (-1), [], (-1))], 2, [false, false]),
  ([(.ireturn, [0], 0)], 0, [false, false])]
/-- CourtProgress$Router.<init>(LCourtProgress$Places;LCourtProgress$Calendar;LCourtProgress$Statutes;)V -/
def ai_c46 : List ai_Bk := [([(.aload_n 0, [], 0), (.invokespecial 3, [998, 1, 999, 0, 0], 0), (.aload_n 0, [], 0), (.bipush 21, [], 21), (.newarray .int, [1], 0), (.putfield 11, [5, 6, 2, 49], 0), (.aload_n 0, [], 0), (.bipush 21, [], 21), (.newarray .int, [1], 0), (.putfield 15, [5, 7, 2, 50], 0), (.aload_n 0, [], 0), (.sipush 189, [], 189), (.newarray .int, [1], 0), (.putfield 18, [5, 8, 2, 51], 0), (.aload_n 0, [], 0), (.iconst 0, [], 0), (.newarray .int, [4], 0), (.putfield 21, [5, 9, 2, 52], 0), (.aload_n 0, [], 0), (.bipush 21, [], 21), (.newarray .int, [1], 0), (.putfield 24, [5, 11, 2, 53], 0), (.aload_n 0, [], 0), (.aload_n 1, [], 0), (.putfield 27, [5, 0, 2, 54], 0), (.aload_n 0, [], 0), (.aload_n 2, [], 0), (.putfield 31, [5, 1, 2, 55], 0), (.aload_n 0, [], 0), (.aload_n 3, [], 0), (.putfield 35, [5, 2, 2, 56], 0), (.aload_n 0, [], 0), (.iconst (-1), [], (-1)), (.putfield 39, [5, 13, 0, 57], 0), (.return_, [], 0)], 0, [true, true, true, true])]
/-- CourtProgress$Router.stopOn(I)I -/
def ai_c47 : List ai_Bk := [([(.iload_n 1, [], 0), (.aload_n 0, [], 0), (.getfield 43, [5, 12, 0, 58], 0), (.if_icmp .lt 26, [1], 0), (.iload_n 1, [], 0), (.aload_n 0, [], 0), (.getfield 39, [5, 13, 0, 57], 0), (.if_icmp .gt 18, [1], 0), (.iload_n 1, [], 0), (.aload_n 0, [], 0), (.getfield 43, [5, 12, 0, 58], 0), (.isub, [], 0), (.bipush 21, [], 21), (.if_icmp .ge 7, [1], 0), (.iconst 1, [], 1), (.goto 4, [2], 0)], 0, [true, true, false]),
  ([(.iconst 0, [], 0)], 2, [true, true, false]),
  ([(.istore_n 2, [], 0), (.iload_n 2, [], 0), (.ifCond .eq 17, [3], 0), (.aload_n 0, [], 0), (.getfield 24, [5, 11, 2, 53], 0), (.iload_n 1, [], 0), (.aload_n 0, [], 0), (.getfield 43, [5, 12, 0, 58], 0), (.isub, [], 0), (.iaload, [], 0), (.goto 4, [4], 0)], 0, [true, true, false]),
  ([(.iconst (-1), [], (-1))], 4, [false, false, false]),
  ([(.ireturn, [0], 0)], 0, [false, false, false])]
/-- CourtProgress$Router.leastHours(III)I -/
def ai_c48 : List ai_Bk := [([(.aload_n 0, [], 0), (.getfield 27, [5, 0, 2, 54], 0), (.iload_n 3, [], 0), (.invokevirtual 46, [33, 2, 3, 0, 29], 0)], 1, [true, true, true, true, false]),
  ([(.ifCond .eq 16, [2], 0), (.iload_n 2, [], 0), (.iload_n 1, [], 0), (.if_icmp .lt 11, [2], 0), (.iload_n 2, [], 0), (.iload_n 1, [], 0), (.isub, [], 0), (.bipush 21, [], 21), (.if_icmp .lt 5, [3], 0)], 2, [true, true, true, true, false]),
  ([(.iconst (-1), [], (-1)), (.ireturn, [0], 0)], 0, [false, false, false, false, false]),
  ([(.aload_n 0, [], 0), (.iload_n 1, [], 0), (.putfield 52, [5, 3, 0, 59], 0), (.aload_n 0, [], 0), (.iload_n 2, [], 0), (.iload_n 1, [], 0), (.isub, [], 0), (.putfield 55, [5, 4, 0, 60], 0), (.aload_n 0, [], 0), (.iload_n 3, [], 0), (.putfield 58, [5, 5, 0, 61], 0), (.aload_n 0, [], 0), (.invokevirtual 61, [49, 1, 5, 0, 30], 0)], 4, [true, true, true, true, false]),
  ([(.aload_n 0, [], 0), (.invokevirtual 64, [303, 1, 5, 0, 31], 0)], 5, [true, false, false, false, false]),
  ([(.aload_n 0, [], 0), (.aload_n 0, [], 0), (.getfield 67, [5, 10, 0, 62], 0), (.iconst 1, [], 1), (.iadd, [], 0), (.ldc 70, [], 65536), (.irem, [], 0), (.putfield 67, [5, 10, 0, 62], 0), (.aload_n 0, [], 0), (.iconst 0, [], 0), (.iconst 0, [], 0), (.aload_n 0, [], 0), (.getfield 58, [5, 5, 0, 61], 0), (.iconst 1, [], 1), (.aload_n 0, [], 0), (.getfield 58, [5, 5, 0, 61], 0), (.ishl, [], 0), (.invokevirtual 71, [52, 5, 5, 0, 32], 0)], 6, [true, false, false, false, false]),
  ([(.istore 4, [], 0), (.iload 4, [], 0), (.sipush 255, [], 255), (.if_icmp .lt 7, [7], 0), (.iconst (-1), [], (-1)), (.goto 5, [8], 0)], 0, [false, false, false, false, false]),
  ([(.iload 4, [], 0)], 8, [false, false, false, false, true]),
  ([(.ireturn, [0], 0)], 0, [false, false, false, false, false])]
/-- CourtProgress$Router.measureRows()V -/
def ai_c49 : List ai_Bk := [([(.iconst 0, [], 0), (.istore_n 1, [], 0)], 1, [true, false, false]),
  ([(.iload_n 1, [], 0), (.aload_n 0, [], 0), (.getfield 55, [5, 4, 0, 60], 0), (.if_icmp .gt 47, [4], 0), (.aload_n 0, [], 0), (.getfield 11, [5, 6, 2, 49], 0), (.iload_n 1, [], 0), (.aload_n 0, [], 0), (.getfield 35, [5, 2, 2, 56], 0), (.aload_n 0, [], 0), (.getfield 52, [5, 3, 0, 59], 0), (.iload_n 1, [], 0), (.iadd, [], 0), (.invokevirtual 75, [81, 2, 7, 0, 33], 0)], 2, [true, true, false]),
  ([(.iastore, [], 0), (.aload_n 0, [], 0), (.getfield 15, [5, 7, 2, 50], 0), (.iload_n 1, [], 0), (.aload_n 0, [], 0), (.getfield 31, [5, 1, 2, 55], 0), (.aload_n 0, [], 0), (.getfield 52, [5, 3, 0, 59], 0), (.iload_n 1, [], 0), (.iadd, [], 0), (.invokevirtual 81, [2, 2, 0, 0, 34], 0)], 3, [true, true, false]),
  ([(.iastore, [], 0), (.iinc 1 1, [], 1), (.goto (-49), [1], 0)], 0, [true, true, false]),
  ([(.iconst 0, [], 0), (.istore_n 1, [], 0)], 5, [true, false, false]),
  ([(.iload_n 1, [], 0), (.aload_n 0, [], 0), (.getfield 27, [5, 0, 2, 54], 0), (.getfield 86, [3, 0, 0, 63], 0), (.if_icmp .ge 42, [9], 0), (.iconst 0, [], 0), (.istore_n 2, [], 0)], 6, [true, true, false]),
  ([(.iload_n 2, [], 0), (.aload_n 0, [], 0), (.getfield 55, [5, 4, 0, 60], 0), (.if_icmp .gt 26, [8], 0), (.aload_n 0, [], 0), (.getfield 18, [5, 8, 2, 51], 0), (.iload_n 2, [], 0), (.bipush 9, [], 9), (.imul, [], 0), (.iload_n 1, [], 0), (.iadd, [], 0), (.aload_n 0, [], 0), (.iload_n 2, [], 0), (.iload_n 1, [], 0), (.invokevirtual 89, [50, 3, 5, 0, 35], 0)], 7, [true, true, true]),
  ([(.iastore, [], 0), (.iinc 2 1, [], 1), (.goto (-28), [6], 0)], 0, [true, true, true]),
  ([(.iinc 1 1, [], 1), (.goto (-47), [5], 0)], 0, [true, true, false]),
  ([(.return_, [], 0)], 0, [false, false, false])]
/-- CourtProgress$Router.measuredEnd(II)I -/
def ai_c50 : List ai_Bk := [([(.aload_n 0, [], 0), (.getfield 27, [5, 0, 2, 54], 0), (.iload_n 2, [], 0), (.invokevirtual 93, [38, 2, 3, 0, 36], 0)], 1, [true, true, true, false, false]),
  ([(.istore_n 3, [], 0), (.iload_n 1, [], 0), (.istore 4, [], 0)], 2, [true, true, true, false, false]),
  ([(.iload 4, [], 0), (.aload_n 0, [], 0), (.getfield 55, [5, 4, 0, 60], 0), (.if_icmp .gt 40, [4], 0), (.aload_n 0, [], 0), (.getfield 11, [5, 6, 2, 49], 0), (.iload 4, [], 0), (.iaload, [], 0), (.iload_n 3, [], 0), (.if_icmp .gt 29, [4], 0), (.aload_n 0, [], 0), (.iload_n 2, [], 0), (.iload 4, [], 0), (.invokevirtual 96, [51, 3, 5, 0, 37], 0)], 3, [true, false, true, true, true]),
  ([(.ifCond .eq 19, [4], 0), (.iload_n 3, [], 0), (.aload_n 0, [], 0), (.getfield 11, [5, 6, 2, 49], 0), (.iload 4, [], 0), (.iaload, [], 0), (.isub, [], 0), (.istore_n 3, [], 0), (.iinc 4 1, [], 1), (.goto (-43), [2], 0)], 0, [true, false, true, true, true]),
  ([(.iload 4, [], 0), (.iconst 1, [], 1), (.isub, [], 0), (.ireturn, [0], 0)], 0, [false, false, false, false, true])]
/-- CourtProgress$Router.mayBeAt(II)Z -/
def ai_c51 : List ai_Bk := [([(.aload_n 0, [], 0), (.getfield 31, [5, 1, 2, 55], 0), (.aload_n 0, [], 0), (.getfield 52, [5, 3, 0, 59], 0), (.iload_n 2, [], 0), (.iadd, [], 0), (.invokevirtual 100, [3, 2, 0, 0, 38], 0)], 1, [true, true, true, false]),
  ([(.istore_n 3, [], 0), (.iload_n 3, [], 0), (.iconst (-1), [], (-1)), (.if_icmp .eq 8, [2], 0), (.iload_n 3, [], 0), (.iload_n 1, [], 0), (.if_icmp .ne 7, [3], 0)], 2, [false, true, false, false]),
  ([(.iconst 1, [], 1), (.goto 4, [4], 0)], 0, [false, false, false, false]),
  ([(.iconst 0, [], 0)], 4, [false, false, false, false]),
  ([(.ireturn, [1], 0)], 0, [false, false, false, false])]
/-- CourtProgress$Router.leastOnward(IIII)I -/
def ai_c52 : List ai_Bk := [([(.aload_n 0, [], 0), (.iload_n 1, [], 0), (.iload_n 3, [], 0), (.invokevirtual 103, [214, 3, 5, 0, 39], 0)], 1, [true, true, true, true, true, false, false, false]),
  ([(.istore 5, [], 0), (.iload 5, [], 0), (.aload_n 0, [], 0), (.getfield 55, [5, 4, 0, 60], 0), (.if_icmp .lt 5, [2], 0), (.iconst 0, [], 0), (.ireturn, [0], 0)], 0, [true, false, true, true, true, false, false, false]),
  ([(.sipush 255, [], 255), (.istore 6, [], 0), (.iload_n 2, [], 0), (.istore 7, [], 0)], 3, [true, false, true, true, true, true, false, false]),
  ([(.iload 7, [], 0), (.iload 5, [], 0), (.if_icmp .gt 25, [6], 0), (.iload 6, [], 0), (.aload_n 0, [], 0), (.iload 7, [], 0), (.iload_n 3, [], 0), (.iload 4, [], 0), (.invokevirtual 106, [53, 4, 5, 0, 40], 0)], 4, [true, false, false, true, true, true, true, true]),
  ([(.invokestatic 110, [212, 2, 999, 0, 41], 0)], 5, [true, false, false, true, true, true, false, true]),
  ([(.istore 6, [], 0), (.iinc 7 1, [], 1), (.goto (-26), [3], 0)], 0, [true, false, false, true, true, true, false, true]),
  ([(.iload 6, [], 0), (.ireturn, [0], 0)], 0, [false, false, false, false, false, false, true, false])]
/-- CourtProgress$Router.leastLeaving(III)I -/
def ai_c53 : List ai_Bk := [([(.aload_n 0, [], 0), (.iload_n 1, [], 0), (.iload_n 2, [], 0), (.iload_n 3, [], 0), (.invokevirtual 115, [56, 4, 5, 0, 42], 0)], 1, [true, true, true, true, false, false, false]),
  ([(.istore 4, [], 0), (.iload 4, [], 0), (.iconst (-1), [], (-1)), (.if_icmp .ne 7, [2], 0), (.sipush 255, [], 255), (.ireturn, [0], 0)], 0, [true, true, true, true, false, false, false]),
  ([(.aload_n 0, [], 0), (.getfield 21, [5, 9, 2, 52], 0), (.iload 4, [], 0), (.iaload, [], 0), (.bipush 8, [], 8), (.ishr, [], 0), (.sipush 255, [], 255), (.iand, [], 0), (.istore 5, [], 0), (.iload 5, [], 0), (.sipush 254, [], 254), (.if_icmp .ne 70, [7], 0), (.sipush 255, [], 255), (.istore 5, [], 0), (.iconst 0, [], 0), (.istore 6, [], 0)], 3, [true, true, true, true, true, false, false]),
  ([(.iload 6, [], 0), (.aload_n 0, [], 0), (.getfield 27, [5, 0, 2, 54], 0), (.getfield 86, [3, 0, 0, 63], 0), (.if_icmp .ge 27, [6], 0), (.iload 5, [], 0), (.aload_n 0, [], 0), (.iload_n 1, [], 0), (.iload_n 2, [], 0), (.iload 6, [], 0), (.iload_n 3, [], 0), (.iload 5, [], 0), (.invokevirtual 118, [54, 6, 5, 0, 43], 0)], 4, [true, true, true, true, true, true, true]),
  ([(.invokestatic 110, [212, 2, 999, 0, 41], 0)], 5, [true, true, true, true, true, false, true]),
  ([(.istore 5, [], 0), (.iinc 6 1, [], 1), (.goto (-33), [3], 0)], 0, [true, true, true, true, true, false, true]),
  ([(.aload_n 0, [], 0), (.getfield 21, [5, 9, 2, 52], 0), (.iload 4, [], 0), (.aload_n 0, [], 0), (.getfield 21, [5, 9, 2, 52], 0), (.iload 4, [], 0), (.iaload, [], 0), (.ldc 122, [], (-65281)), (.iand, [], 0), (.iload 5, [], 0), (.bipush 8, [], 8), (.ishl, [], 0), (.ior, [], 0), (.iastore, [], 0)], 7, [true, false, false, false, true, true, false]),
  ([(.iload 5, [], 0), (.ireturn, [0], 0)], 0, [false, false, false, false, false, true, false])]
/-- CourtProgress$Router.leastBy(IIIII)I -/
def ai_c54 : List ai_Bk := [([(.iload_n 1, [], 0), (.ifCond .lt 21, [1], 0), (.iload_n 1, [], 0), (.aload_n 0, [], 0), (.getfield 55, [5, 4, 0, 60], 0), (.if_icmp .ge 13, [1], 0), (.iload 4, [], 0), (.iload_n 3, [], 0), (.ishr, [], 0), (.iconst 1, [], 1), (.iand, [], 0), (.iconst 1, [], 1), (.if_icmp .ne 7, [2], 0)], 1, [true, true, true, true, true, true, false]),
  ([(.sipush 255, [], 255), (.ireturn, [0], 0)], 0, [false, false, false, false, false, false, false]),
  ([(.aload_n 0, [], 0), (.getfield 27, [5, 0, 2, 54], 0), (.iload_n 2, [], 0), (.iload_n 3, [], 0), (.aload_n 0, [], 0), (.getfield 15, [5, 7, 2, 50], 0), (.iload_n 1, [], 0), (.iaload, [], 0), (.invokevirtual 123, [37, 4, 3, 0, 44], 0)], 3, [true, true, true, true, true, true, false]),
  ([(.istore 6, [], 0), (.iload 6, [], 0), (.ifCond .eq 22, [5], 0), (.iload 6, [], 0), (.iload 5, [], 0), (.if_icmp .ge 15, [5], 0), (.aload_n 0, [], 0), (.iload_n 1, [], 0), (.iconst 1, [], 1), (.iadd, [], 0), (.iload_n 3, [], 0), (.invokevirtual 103, [214, 3, 5, 0, 39], 0)], 4, [true, true, false, true, true, true, false]),
  ([(.iload_n 1, [], 0), (.if_icmp .gt 7, [6], 0)], 5, [true, true, false, true, true, false, true]),
  ([(.sipush 255, [], 255), (.ireturn, [0], 0)], 0, [false, false, false, false, false, false, false]),
  ([(.iload 6, [], 0), (.aload_n 0, [], 0), (.iload_n 1, [], 0), (.iconst 1, [], 1), (.iadd, [], 0), (.iload_n 3, [], 0), (.iload 4, [], 0), (.iconst 1, [], 1), (.iload_n 3, [], 0), (.ishl, [], 0), (.ior, [], 0), (.invokevirtual 126, [55, 4, 5, 0, 45], 0)], 7, [true, true, false, true, true, false, true]),
  ([(.iadd, [], 0), (.ireturn, [0], 0)], 0, [false, false, false, false, false, false, false])]
/-- CourtProgress$Router.leastFrom(III)I -/
def ai_c55 : List ai_Bk := [([(.aload_n 0, [], 0), (.iload_n 1, [], 0), (.iload_n 2, [], 0), (.iload_n 3, [], 0), (.invokevirtual 115, [56, 4, 5, 0, 42], 0)], 1, [true, true, true, true, false, false]),
  ([(.istore 4, [], 0), (.iload 4, [], 0), (.iconst (-1), [], (-1)), (.if_icmp .ne 7, [2], 0), (.sipush 255, [], 255), (.ireturn, [0], 0)], 0, [true, true, true, true, false, false]),
  ([(.aload_n 0, [], 0), (.getfield 21, [5, 9, 2, 52], 0), (.iload 4, [], 0), (.iaload, [], 0), (.sipush 255, [], 255), (.iand, [], 0), (.istore 5, [], 0), (.iload 5, [], 0), (.sipush 254, [], 254), (.if_icmp .ne 34, [4], 0), (.aload_n 0, [], 0), (.iload_n 1, [], 0), (.iload_n 1, [], 0), (.iload_n 2, [], 0), (.iload_n 3, [], 0), (.invokevirtual 71, [52, 5, 5, 0, 32], 0)], 3, [true, true, true, true, true, false]),
  ([(.istore 5, [], 0), (.aload_n 0, [], 0), (.getfield 21, [5, 9, 2, 52], 0), (.iload 4, [], 0), (.aload_n 0, [], 0), (.getfield 21, [5, 9, 2, 52], 0), (.iload 4, [], 0), (.iaload, [], 0), (.sipush (-256), [], (-256)), (.iand, [], 0), (.iload 5, [], 0), (.ior, [], 0), (.iastore, [], 0)], 4, [true, false, false, false, true, false]),
  ([(.iload 5, [], 0), (.ireturn, [0], 0)], 0, [false, false, false, false, false, true])]
/-- CourtProgress$Router.slotOf(III)I -/
def ai_c56 : List ai_Bk := [([(.iload_n 3, [], 0), (.iconst 1, [], 1), (.aload_n 0, [], 0), (.getfield 58, [5, 5, 0, 61], 0), (.ishl, [], 0), (.iconst 1, [], 1), (.isub, [], 0), (.iand, [], 0), (.istore 4, [], 0), (.iload 4, [], 0), (.iload_n 3, [], 0), (.aload_n 0, [], 0), (.getfield 58, [5, 5, 0, 61], 0), (.iconst 1, [], 1), (.iadd, [], 0), (.ishr, [], 0), (.aload_n 0, [], 0), (.getfield 58, [5, 5, 0, 61], 0), (.ishl, [], 0), (.ior, [], 0), (.istore 5, [], 0), (.iload 5, [], 0), (.aload_n 0, [], 0), (.getfield 27, [5, 0, 2, 54], 0), (.getfield 86, [3, 0, 0, 63], 0), (.imul, [], 0), (.iload_n 2, [], 0), (.iadd, [], 0), (.bipush 21, [], 21), (.imul, [], 0), (.iload_n 1, [], 0), (.iadd, [], 0), (.istore 6, [], 0), (.iload 6, [], 0), (.ifCond .lt 13, [1], 0), (.iload 6, [], 0), (.aload_n 0, [], 0), (.getfield 21, [5, 9, 2, 52], 0), (.arraylength, [], 0), (.if_icmp .lt 5, [2], 0)], 1, [true, true, true, true, false, false, false]),
  ([(.iconst (-1), [], (-1)), (.ireturn, [0], 0)], 0, [false, false, false, false, false, false, false]),
  ([(.aload_n 0, [], 0), (.getfield 21, [5, 9, 2, 52], 0), (.iload 6, [], 0), (.iaload, [], 0), (.bipush 16, [], 16), (.iushr, [], 0), (.aload_n 0, [], 0), (.getfield 67, [5, 10, 0, 62], 0), (.if_icmp .eq 24, [3], 0), (.aload_n 0, [], 0), (.getfield 21, [5, 9, 2, 52], 0), (.iload 6, [], 0), (.aload_n 0, [], 0), (.getfield 67, [5, 10, 0, 62], 0), (.bipush 16, [], 16), (.ishl, [], 0), (.ldc 129, [], 65024), (.ior, [], 0), (.sipush 254, [], 254), (.ior, [], 0), (.iastore, [], 0)], 3, [true, false, false, false, false, false, true]),
  ([(.iload 6, [], 0), (.ireturn, [0], 0)], 0, [false, false, false, false, false, false, true])]
/-- CourtProgress$Router.trace(I)V -/
def ai_c57 : List ai_Bk := [([(.aload_n 0, [], 0), (.getfield 58, [5, 5, 0, 61], 0), (.istore_n 2, [], 0), (.iconst 1, [], 1), (.aload_n 0, [], 0), (.getfield 58, [5, 5, 0, 61], 0), (.ishl, [], 0), (.istore_n 3, [], 0), (.iconst 0, [], 0), (.istore 4, [], 0), (.iload_n 1, [], 0), (.istore 5, [], 0), (.aload_n 0, [], 0), (.aload_n 0, [], 0), (.getfield 52, [5, 3, 0, 59], 0), (.putfield 43, [5, 12, 0, 58], 0), (.aload_n 0, [], 0), (.aload_n 0, [], 0), (.getfield 52, [5, 3, 0, 59], 0), (.aload_n 0, [], 0), (.getfield 55, [5, 4, 0, 60], 0), (.iadd, [], 0), (.putfield 39, [5, 13, 0, 57], 0), (.aload_n 0, [], 0), (.getfield 24, [5, 11, 2, 53], 0), (.iconst 0, [], 0), (.aload_n 0, [], 0), (.getfield 58, [5, 5, 0, 61], 0), (.iastore, [], 0), (.iconst 0, [], 0), (.istore 6, [], 0)], 1, [true, true, false, false, false, false, false, false]),
  ([(.iload 6, [], 0), (.aload_n 0, [], 0), (.getfield 55, [5, 4, 0, 60], 0), (.if_icmp .ge 77, [5], 0), (.aload_n 0, [], 0), (.iload 6, [], 0), (.iload 4, [], 0), (.iload_n 2, [], 0), (.iload_n 3, [], 0), (.iload 5, [], 0), (.invokevirtual 130, [58, 6, 5, 0, 46], 0)], 2, [true, false, true, true, true, true, true, false]),
  ([(.istore 7, [], 0), (.iload 7, [], 0), (.iload_n 2, [], 0), (.if_icmp .eq 41, [4], 0), (.iload 5, [], 0), (.aload_n 0, [], 0), (.getfield 27, [5, 0, 2, 54], 0), (.iload_n 2, [], 0), (.iload 7, [], 0), (.aload_n 0, [], 0), (.getfield 15, [5, 7, 2, 50], 0), (.iload 6, [], 0), (.iaload, [], 0), (.invokevirtual 123, [37, 4, 3, 0, 44], 0)], 3, [true, false, true, true, true, true, true, false]),
  ([(.isub, [], 0), (.istore 5, [], 0), (.iload_n 3, [], 0), (.iconst 1, [], 1), (.iload 7, [], 0), (.ishl, [], 0), (.ior, [], 0), (.istore_n 3, [], 0), (.iload 6, [], 0), (.iconst 1, [], 1), (.iadd, [], 0), (.istore 4, [], 0), (.iload 7, [], 0), (.istore_n 2, [], 0)], 4, [true, false, false, true, false, false, true, true]),
  ([(.aload_n 0, [], 0), (.getfield 24, [5, 11, 2, 53], 0), (.iload 6, [], 0), (.iconst 1, [], 1), (.iadd, [], 0), (.iload_n 2, [], 0), (.iastore, [], 0), (.iinc 6 1, [], 1), (.goto (-80), [1], 0)], 0, [true, false, true, true, true, true, true, false]),
  ([(.return_, [], 0)], 0, [false, false, false, false, false, false, false, false])]
/-- CourtProgress$Router.leastNext(IIIII)I -/
def ai_c58 : List ai_Bk := [([(.iconst 0, [], 0), (.istore 6, [], 0)], 1, [true, true, true, true, true, true, false, false]),
  ([(.iload 6, [], 0), (.aload_n 0, [], 0), (.getfield 27, [5, 0, 2, 54], 0), (.getfield 86, [3, 0, 0, 63], 0), (.if_icmp .ge 54, [6], 0), (.iload 6, [], 0), (.iload_n 3, [], 0), (.if_icmp .ne 17, [3], 0), (.aload_n 0, [], 0), (.iload_n 2, [], 0), (.iload_n 1, [], 0), (.iconst 1, [], 1), (.iadd, [], 0), (.iload_n 3, [], 0), (.iload 4, [], 0), (.invokevirtual 71, [52, 5, 5, 0, 32], 0)], 2, [true, true, true, true, true, true, true, false]),
  ([(.goto 16, [4], 0)], 0, [true, true, true, true, true, true, true, false]),
  ([(.aload_n 0, [], 0), (.iload_n 1, [], 0), (.iload_n 3, [], 0), (.iload 6, [], 0), (.iload 4, [], 0), (.sipush 255, [], 255), (.invokevirtual 118, [54, 6, 5, 0, 43], 0)], 4, [true, true, true, true, true, true, true, false]),
  ([(.istore 7, [], 0), (.iload 7, [], 0), (.iload 5, [], 0), (.if_icmp .ne 6, [5], 0), (.iload 6, [], 0), (.ireturn, [0], 0)], 0, [true, true, true, true, true, true, true, false]),
  ([(.iinc 6 1, [], 1), (.goto (-60), [1], 0)], 0, [true, true, true, true, true, true, true, false]),
  ([(.iload_n 3, [], 0), (.ireturn, [0], 0)], 0, [false, false, false, true, false, false, false, false])]
/-- CourtProgress$Scribe.<init>(LCourtProgress$Tape;LCourtProgress$Statutes;)V -/
def ai_c59 : List ai_Bk := [([(.aload_n 0, [], 0), (.invokespecial 1, [998, 1, 999, 0, 0], 0), (.aload_n 0, [], 0), (.aload_n 1, [], 0), (.putfield 7, [6, 0, 2, 64], 0), (.aload_n 0, [], 0), (.aload_n 2, [], 0), (.putfield 13, [6, 1, 2, 65], 0), (.return_, [], 0)], 0, [true, true, true])]
/-- CourtProgress$Scribe.reads()Z -/
def ai_c60 : List ai_Bk := [([(.aload_n 0, [], 0), (.iconst 0, [], 0), (.putfield 17, [6, 2, 0, 66], 0), (.aload_n 0, [], 0), (.iconst 0, [], 0), (.putfield 21, [6, 3, 0, 67], 0), (.aload_n 0, [], 0), (.aload_n 0, [], 0), (.getfield 7, [6, 0, 2, 64], 0), (.iconst 0, [], 0), (.invokevirtual 24, [92, 2, 8, 0, 47], 0)], 1, [true, false]),
  ([(.putfield 30, [6, 4, 0, 68], 0), (.aload_n 0, [], 0), (.getfield 13, [6, 1, 2, 65], 0), (.invokevirtual 33, [73, 1, 7, 0, 48], 0)], 2, [true, false]),
  ([(.iconst 0, [], 0), (.istore_n 1, [], 0)], 3, [true, false]),
  ([(.iload_n 1, [], 0), (.bipush 12, [], 12), (.if_icmp .gt 48, [10], 0), (.aload_n 0, [], 0), (.iload_n 1, [], 0), (.invokevirtual 38, [62, 2, 6, 0, 49], 0)], 4, [true, true]),
  ([(.ifCond .ne 5, [5], 0), (.iconst 0, [], 0), (.ireturn, [1], 0)], 0, [true, true]),
  ([(.aload_n 0, [], 0), (.getfield 30, [6, 4, 0, 68], 0), (.iconst (-1), [], (-1)), (.if_icmp .ne 5, [6], 0), (.iconst 1, [], 1), (.ireturn, [1], 0)], 0, [true, true]),
  ([(.aload_n 0, [], 0), (.getfield 30, [6, 4, 0, 68], 0), (.bipush 59, [], 59), (.if_icmp .eq 9, [8], 0), (.aload_n 0, [], 0), (.iconst 1, [], 1), (.invokevirtual 42, [71, 2, 6, 0, 50], 0)], 7, [true, true]),
  ([(.ireturn, [1], 0)], 0, [false, false]),
  ([(.aload_n 0, [], 0), (.invokevirtual 45, [67, 1, 6, 0, 51], 0)], 9, [true, true]),
  ([(.iinc 1 1, [], 1), (.goto (-48), [3], 0)], 0, [true, true]),
  ([(.iconst 0, [], 0), (.ireturn, [1], 0)], 0, [false, false])]
/-- CourtProgress$Scribe.faultPlace()I -/
def ai_c61 : List ai_Bk := [([(.aload_n 0, [], 0), (.getfield 7, [6, 0, 2, 64], 0), (.aload_n 0, [], 0), (.getfield 21, [6, 3, 0, 67], 0), (.invokevirtual 48, [93, 2, 8, 0, 52], 0)], 1, [true]),
  ([(.ireturn, [0], 0)], 0, [false])]
/-- CourtProgress$Scribe.readRule(I)Z -/
def ai_c62 : List ai_Bk := [([(.aload_n 0, [], 0), (.getfield 30, [6, 4, 0, 68], 0), (.sipush 257, [], 257), (.if_icmp .eq 29, [2], 0), (.aload_n 0, [], 0), (.getfield 30, [6, 4, 0, 68], 0), (.sipush 259, [], 259), (.if_icmp .eq 19, [2], 0), (.aload_n 0, [], 0), (.getfield 30, [6, 4, 0, 68], 0), (.sipush 260, [], 260), (.if_icmp .eq 9, [2], 0), (.aload_n 0, [], 0), (.iconst 1, [], 1), (.invokevirtual 42, [71, 2, 6, 0, 50], 0)], 1, [true, true]),
  ([(.ireturn, [1], 0)], 0, [false, false]),
  ([(.iload_n 1, [], 0), (.bipush 12, [], 12), (.if_icmp .lt 9, [4], 0), (.aload_n 0, [], 0), (.iconst 3, [], 3), (.invokevirtual 42, [71, 2, 6, 0, 50], 0)], 3, [true, true]),
  ([(.ireturn, [1], 0)], 0, [false, false]),
  ([(.aload_n 0, [], 0), (.getfield 13, [6, 1, 2, 65], 0), (.invokevirtual 51, [74, 1, 7, 0, 53], 0)], 5, [true, false]),
  ([(.aload_n 0, [], 0), (.getfield 30, [6, 4, 0, 68], 0), (.sipush 257, [], 257), (.if_icmp .ne 12, [7], 0), (.aload_n 0, [], 0), (.invokevirtual 54, [63, 1, 6, 0, 54], 0)], 6, [true, false]),
  ([(.ifCond .ne 5, [7], 0), (.iconst 0, [], 0), (.ireturn, [1], 0)], 0, [true, false]),
  ([(.aload_n 0, [], 0), (.getfield 30, [6, 4, 0, 68], 0), (.sipush 259, [], 259), (.if_icmp .eq 19, [9], 0), (.aload_n 0, [], 0), (.getfield 30, [6, 4, 0, 68], 0), (.sipush 260, [], 260), (.if_icmp .eq 9, [9], 0), (.aload_n 0, [], 0), (.iconst 1, [], 1), (.invokevirtual 42, [71, 2, 6, 0, 50], 0)], 8, [true, false]),
  ([(.ireturn, [1], 0)], 0, [false, false]),
  ([(.aload_n 0, [], 0), (.getfield 13, [6, 1, 2, 65], 0), (.aload_n 0, [], 0), (.getfield 30, [6, 4, 0, 68], 0), (.sipush 260, [], 260), (.if_icmp .ne 7, [10], 0), (.iconst 1, [], 1), (.goto 4, [11], 0)], 0, [true, false]),
  ([(.iconst 0, [], 0)], 11, [true, false]),
  ([(.invokevirtual 58, [75, 2, 7, 0, 55], 0)], 12, [true, false]),
  ([(.aload_n 0, [], 0), (.invokevirtual 62, [65, 1, 6, 0, 56], 0)], 13, [true, false]),
  ([(.ireturn, [1], 0)], 0, [false, false])]
/-- CourtProgress$Scribe.readTests()Z -/
def ai_c63 : List ai_Bk := [([(.iconst 0, [], 0), (.istore_n 1, [], 0)], 1, [true, false]),
  ([(.iload_n 1, [], 0), (.iconst 4, [], 4), (.if_icmp .gt 57, [11], 0), (.aload_n 0, [], 0), (.invokevirtual 45, [67, 1, 6, 0, 51], 0)], 2, [true, true]),
  ([(.aload_n 0, [], 0), (.invokevirtual 65, [69, 1, 6, 0, 57], 0)], 3, [true, true]),
  ([(.ifCond .ne 8, [5], 0), (.aload_n 0, [], 0), (.invokevirtual 68, [70, 1, 6, 0, 58], 0)], 4, [true, true]),
  ([(.ireturn, [1], 0)], 0, [false, false]),
  ([(.iload_n 1, [], 0), (.iconst 4, [], 4), (.if_icmp .lt 9, [7], 0), (.aload_n 0, [], 0), (.iconst 3, [], 3), (.invokevirtual 42, [71, 2, 6, 0, 50], 0)], 6, [true, true]),
  ([(.ireturn, [1], 0)], 0, [false, false]),
  ([(.aload_n 0, [], 0), (.invokevirtual 71, [64, 1, 6, 0, 59], 0)], 8, [true, true]),
  ([(.ifCond .ne 5, [9], 0), (.iconst 0, [], 0), (.ireturn, [1], 0)], 0, [true, true]),
  ([(.aload_n 0, [], 0), (.getfield 30, [6, 4, 0, 68], 0), (.sipush 258, [], 258), (.if_icmp .eq 5, [10], 0), (.iconst 1, [], 1), (.ireturn, [1], 0)], 0, [true, true]),
  ([(.iinc 1 1, [], 1), (.goto (-56), [1], 0)], 0, [true, true]),
  ([(.iconst 0, [], 0), (.ireturn, [1], 0)], 0, [false, false])]
/-- CourtProgress$Scribe.readTest()Z -/
def ai_c64 : List ai_Bk := [([(.aload_n 0, [], 0), (.getfield 30, [6, 4, 0, 68], 0), (.istore_n 1, [], 0), (.aload_n 0, [], 0), (.invokevirtual 45, [67, 1, 6, 0, 51], 0)], 1, [true, false, false]),
  ([(.aload_n 0, [], 0), (.getfield 30, [6, 4, 0, 68], 0), (.istore_n 2, [], 0), (.iload_n 2, [], 0), (.bipush 60, [], 60), (.if_icmp .eq 21, [3], 0), (.iload_n 2, [], 0), (.bipush 62, [], 62), (.if_icmp .eq 15, [3], 0), (.iload_n 2, [], 0), (.bipush 61, [], 61), (.if_icmp .eq 9, [3], 0), (.aload_n 0, [], 0), (.iconst 1, [], 1), (.invokevirtual 42, [71, 2, 6, 0, 50], 0)], 2, [true, true, false]),
  ([(.ireturn, [1], 0)], 0, [false, false, false]),
  ([(.aload_n 0, [], 0), (.invokevirtual 45, [67, 1, 6, 0, 51], 0)], 4, [true, true, true]),
  ([(.aload_n 0, [], 0), (.invokevirtual 74, [68, 1, 6, 0, 60], 0)], 5, [true, true, true]),
  ([(.ifCond .ne 9, [7], 0), (.aload_n 0, [], 0), (.iconst 1, [], 1), (.invokevirtual 42, [71, 2, 6, 0, 50], 0)], 6, [true, true, true]),
  ([(.ireturn, [1], 0)], 0, [false, false, false]),
  ([(.aload_n 0, [], 0), (.getfield 13, [6, 1, 2, 65], 0), (.iload_n 1, [], 0), (.iload_n 2, [], 0), (.aload_n 0, [], 0), (.getfield 30, [6, 4, 0, 68], 0), (.sipush 1000, [], 1000), (.isub, [], 0), (.invokevirtual 77, [76, 4, 7, 0, 61], 0)], 8, [true, true, true]),
  ([(.aload_n 0, [], 0), (.invokevirtual 45, [67, 1, 6, 0, 51], 0)], 9, [true, false, false]),
  ([(.iconst 1, [], 1), (.ireturn, [1], 0)], 0, [false, false, false])]
/-- CourtProgress$Scribe.readSum()Z -/
def ai_c65 : List ai_Bk := [([(.iconst 0, [], 0), (.istore_n 1, [], 0)], 1, [true, false]),
  ([(.iload_n 1, [], 0), (.iconst 4, [], 4), (.if_icmp .gt 63, [12], 0), (.aload_n 0, [], 0), (.invokevirtual 45, [67, 1, 6, 0, 51], 0)], 2, [true, true]),
  ([(.aload_n 0, [], 0), (.invokevirtual 74, [68, 1, 6, 0, 60], 0)], 3, [true, true]),
  ([(.ifCond .ne 15, [6], 0), (.aload_n 0, [], 0), (.invokevirtual 65, [69, 1, 6, 0, 57], 0)], 4, [true, true]),
  ([(.ifCond .ne 8, [6], 0), (.aload_n 0, [], 0), (.invokevirtual 68, [70, 1, 6, 0, 58], 0)], 5, [true, true]),
  ([(.ireturn, [1], 0)], 0, [false, false]),
  ([(.iload_n 1, [], 0), (.iconst 4, [], 4), (.if_icmp .lt 9, [8], 0), (.aload_n 0, [], 0), (.iconst 3, [], 3), (.invokevirtual 42, [71, 2, 6, 0, 50], 0)], 7, [true, true]),
  ([(.ireturn, [1], 0)], 0, [false, false]),
  ([(.aload_n 0, [], 0), (.invokevirtual 81, [66, 1, 6, 0, 62], 0)], 9, [true, true]),
  ([(.ifCond .ne 5, [10], 0), (.iconst 0, [], 0), (.ireturn, [1], 0)], 0, [true, true]),
  ([(.aload_n 0, [], 0), (.getfield 30, [6, 4, 0, 68], 0), (.bipush 43, [], 43), (.if_icmp .eq 5, [11], 0), (.iconst 1, [], 1), (.ireturn, [1], 0)], 0, [true, true]),
  ([(.iinc 1 1, [], 1), (.goto (-62), [1], 0)], 0, [true, true]),
  ([(.iconst 0, [], 0), (.ireturn, [1], 0)], 0, [false, false])]
/-- CourtProgress$Scribe.readTerm()Z -/
def ai_c66 : List ai_Bk := [([(.iconst 1, [], 1), (.istore_n 1, [], 0), (.aload_n 0, [], 0), (.invokevirtual 74, [68, 1, 6, 0, 60], 0)], 1, [true, false]),
  ([(.ifCond .eq 53, [8], 0), (.aload_n 0, [], 0), (.getfield 30, [6, 4, 0, 68], 0), (.sipush 1000, [], 1000), (.isub, [], 0), (.istore_n 1, [], 0), (.aload_n 0, [], 0), (.invokevirtual 45, [67, 1, 6, 0, 51], 0)], 2, [true, true]),
  ([(.aload_n 0, [], 0), (.getfield 30, [6, 4, 0, 68], 0), (.bipush 42, [], 42), (.if_icmp .eq 15, [4], 0), (.aload_n 0, [], 0), (.getfield 13, [6, 1, 2, 65], 0), (.iload_n 1, [], 0), (.bipush 6, [], 6), (.invokevirtual 84, [77, 3, 7, 0, 63], 0)], 3, [true, true]),
  ([(.iconst 1, [], 1), (.ireturn, [1], 0)], 0, [false, false]),
  ([(.aload_n 0, [], 0), (.invokevirtual 45, [67, 1, 6, 0, 51], 0)], 5, [true, true]),
  ([(.aload_n 0, [], 0), (.invokevirtual 65, [69, 1, 6, 0, 57], 0)], 6, [true, true]),
  ([(.ifCond .ne 8, [8], 0), (.aload_n 0, [], 0), (.invokevirtual 68, [70, 1, 6, 0, 58], 0)], 7, [true, true]),
  ([(.ireturn, [1], 0)], 0, [false, false]),
  ([(.aload_n 0, [], 0), (.getfield 13, [6, 1, 2, 65], 0), (.iload_n 1, [], 0), (.aload_n 0, [], 0), (.getfield 30, [6, 4, 0, 68], 0), (.invokevirtual 84, [77, 3, 7, 0, 63], 0)], 9, [true, true]),
  ([(.aload_n 0, [], 0), (.invokevirtual 45, [67, 1, 6, 0, 51], 0)], 10, [true, false]),
  ([(.iconst 1, [], 1), (.ireturn, [1], 0)], 0, [false, false])]
/-- CourtProgress$Scribe.advance()V -/
def ai_c67 : List ai_Bk := [([(.aload_n 0, [], 0), (.dup, [], 0), (.getfield 21, [6, 3, 0, 67], 0), (.iconst 1, [], 1), (.iadd, [], 0), (.putfield 21, [6, 3, 0, 67], 0), (.aload_n 0, [], 0), (.aload_n 0, [], 0), (.getfield 7, [6, 0, 2, 64], 0), (.aload_n 0, [], 0), (.getfield 21, [6, 3, 0, 67], 0), (.invokevirtual 24, [92, 2, 8, 0, 47], 0)], 1, [true]),
  ([(.putfield 30, [6, 4, 0, 68], 0), (.return_, [], 0)], 0, [false])]
/-- CourtProgress$Scribe.isNumber()Z -/
def ai_c68 : List ai_Bk := [([(.aload_n 0, [], 0), (.getfield 30, [6, 4, 0, 68], 0), (.sipush 1000, [], 1000), (.if_icmp .lt 7, [1], 0), (.iconst 1, [], 1), (.goto 4, [2], 0)], 0, [true]),
  ([(.iconst 0, [], 0)], 2, [false]),
  ([(.ireturn, [1], 0)], 0, [false])]
/-- CourtProgress$Scribe.isName()Z -/
def ai_c69 : List ai_Bk := [([(.aload_n 0, [], 0), (.getfield 30, [6, 4, 0, 68], 0), (.ifCond .lt 15, [1], 0), (.aload_n 0, [], 0), (.getfield 30, [6, 4, 0, 68], 0), (.iconst 5, [], 5), (.if_icmp .gt 7, [1], 0), (.iconst 1, [], 1), (.goto 4, [2], 0)], 0, [true]),
  ([(.iconst 0, [], 0)], 2, [false]),
  ([(.ireturn, [1], 0)], 0, [false])]
/-- CourtProgress$Scribe.failWithoutName()Z -/
def ai_c70 : List ai_Bk := [([(.aload_n 0, [], 0), (.aload_n 0, [], 0), (.getfield 30, [6, 4, 0, 68], 0), (.sipush 256, [], 256), (.if_icmp .ne 7, [1], 0), (.iconst 2, [], 2), (.goto 4, [2], 0)], 0, [true]),
  ([(.iconst 1, [], 1)], 2, [false]),
  ([(.invokevirtual 42, [71, 2, 6, 0, 50], 0)], 3, [false]),
  ([(.ireturn, [1], 0)], 0, [false])]
/-- CourtProgress$Scribe.fail(I)Z -/
def ai_c71 : List ai_Bk := [([(.aload_n 0, [], 0), (.iload_n 1, [], 0), (.putfield 17, [6, 2, 0, 66], 0), (.iconst 0, [], 0), (.ireturn, [1], 0)], 0, [true, true])]
/-- CourtProgress$Statutes.<init>(LCourtProgress$Households;LCourtProgress$Calendar;)V -/
def ai_c72 : List ai_Bk := [([(.aload_n 0, [], 0), (.invokespecial 5, [998, 1, 999, 0, 0], 0), (.aload_n 0, [], 0), (.bipush 10, [], 10), (.newarray .int, [1], 0), (.putfield 11, [7, 3, 2, 69], 0), (.aload_n 0, [], 0), (.bipush 11, [], 11), (.newarray .int, [1], 0), (.putfield 15, [7, 4, 2, 70], 0), (.aload_n 0, [], 0), (.sipush 3036, [], 3036), (.newarray .int, [1], 0), (.putfield 18, [7, 5, 2, 71], 0), (.aload_n 0, [], 0), (.bipush 7, [], 7), (.newarray .int, [1], 0), (.putfield 21, [7, 7, 2, 72], 0), (.aload_n 0, [], 0), (.aload_n 1, [], 0), (.putfield 24, [7, 0, 2, 73], 0), (.aload_n 0, [], 0), (.aload_n 2, [], 0), (.putfield 28, [7, 1, 2, 74], 0), (.aload_n 0, [], 0), (.getfield 21, [7, 7, 2, 72], 0), (.bipush 6, [], 6), (.iconst 1, [], 1), (.iastore, [], 0), (.return_, [], 0)], 0, [true, true, true])]
/-- CourtProgress$Statutes.beginDraft()V -/
def ai_c73 : List ai_Bk := [([(.aload_n 0, [], 0), (.getfield 32, [7, 2, 0, 75], 0), (.bipush 10, [], 10), (.if_icmp .gt 13, [1], 0), (.aload_n 0, [], 0), (.getfield 15, [7, 4, 2, 70], 0), (.aload_n 0, [], 0), (.getfield 32, [7, 2, 0, 75], 0), (.iconst 0, [], 0), (.iastore, [], 0)], 1, [true]),
  ([(.return_, [], 0)], 0, [false])]
/-- CourtProgress$Statutes.draftRule()V -/
def ai_c74 : List ai_Bk := [([(.aload_n 0, [], 0), (.getfield 32, [7, 2, 0, 75], 0), (.bipush 10, [], 10), (.if_icmp .gt 84, [2], 0), (.aload_n 0, [], 0), (.getfield 15, [7, 4, 2, 70], 0), (.aload_n 0, [], 0), (.getfield 32, [7, 2, 0, 75], 0), (.iaload, [], 0), (.bipush 12, [], 12), (.if_icmp .ge 70, [2], 0), (.aload_n 0, [], 0), (.aload_n 0, [], 0), (.getfield 32, [7, 2, 0, 75], 0), (.aload_n 0, [], 0), (.getfield 15, [7, 4, 2, 70], 0), (.aload_n 0, [], 0), (.getfield 32, [7, 2, 0, 75], 0), (.iaload, [], 0), (.invokestatic 36, [88, 2, 999, 0, 64], 0)], 1, [true]),
  ([(.putfield 40, [7, 6, 0, 76], 0), (.aload_n 0, [], 0), (.getfield 18, [7, 5, 2, 71], 0), (.aload_n 0, [], 0), (.getfield 40, [7, 6, 0, 76], 0), (.iconst 0, [], 0), (.iastore, [], 0), (.aload_n 0, [], 0), (.getfield 18, [7, 5, 2, 71], 0), (.aload_n 0, [], 0), (.getfield 40, [7, 6, 0, 76], 0), (.iconst 1, [], 1), (.iadd, [], 0), (.iconst 0, [], 0), (.iastore, [], 0), (.aload_n 0, [], 0), (.getfield 18, [7, 5, 2, 71], 0), (.aload_n 0, [], 0), (.getfield 40, [7, 6, 0, 76], 0), (.iconst 2, [], 2), (.iadd, [], 0), (.iconst 0, [], 0), (.iastore, [], 0), (.aload_n 0, [], 0), (.getfield 15, [7, 4, 2, 70], 0), (.aload_n 0, [], 0), (.getfield 32, [7, 2, 0, 75], 0), (.dup2, [], 0), (.iaload, [], 0), (.iconst 1, [], 1), (.iadd, [], 0), (.iastore, [], 0)], 2, [true]),
  ([(.return_, [], 0)], 0, [false])]
/-- CourtProgress$Statutes.draftKind(Z)V -/
def ai_c75 : List ai_Bk := [([(.aload_n 0, [], 0), (.getfield 18, [7, 5, 2, 71], 0), (.aload_n 0, [], 0), (.getfield 40, [7, 6, 0, 76], 0), (.iload_n 1, [], 0), (.ifCond .eq 7, [1], 0), (.iconst 1, [], 1), (.goto 4, [2], 0)], 0, [true, true]),
  ([(.iconst 0, [], 0)], 2, [false, false]),
  ([(.iastore, [], 0), (.return_, [], 0)], 0, [false, false])]
/-- CourtProgress$Statutes.draftTest(III)V -/
def ai_c76 : List ai_Bk := [([(.aload_n 0, [], 0), (.getfield 18, [7, 5, 2, 71], 0), (.aload_n 0, [], 0), (.getfield 40, [7, 6, 0, 76], 0), (.iconst 1, [], 1), (.iadd, [], 0), (.iaload, [], 0), (.iconst 4, [], 4), (.if_icmp .ge 68, [1], 0), (.aload_n 0, [], 0), (.getfield 40, [7, 6, 0, 76], 0), (.iconst 3, [], 3), (.iadd, [], 0), (.iconst 3, [], 3), (.aload_n 0, [], 0), (.getfield 18, [7, 5, 2, 71], 0), (.aload_n 0, [], 0), (.getfield 40, [7, 6, 0, 76], 0), (.iconst 1, [], 1), (.iadd, [], 0), (.iaload, [], 0), (.imul, [], 0), (.iadd, [], 0), (.istore 4, [], 0), (.aload_n 0, [], 0), (.getfield 18, [7, 5, 2, 71], 0), (.iload 4, [], 0), (.iload_n 1, [], 0), (.iastore, [], 0), (.aload_n 0, [], 0), (.getfield 18, [7, 5, 2, 71], 0), (.iload 4, [], 0), (.iconst 1, [], 1), (.iadd, [], 0), (.iload_n 2, [], 0), (.iastore, [], 0), (.aload_n 0, [], 0), (.getfield 18, [7, 5, 2, 71], 0), (.iload 4, [], 0), (.iconst 2, [], 2), (.iadd, [], 0), (.iload_n 3, [], 0), (.iastore, [], 0), (.aload_n 0, [], 0), (.getfield 18, [7, 5, 2, 71], 0), (.aload_n 0, [], 0), (.getfield 40, [7, 6, 0, 76], 0), (.iconst 1, [], 1), (.iadd, [], 0), (.dup2, [], 0), (.iaload, [], 0), (.iconst 1, [], 1), (.iadd, [], 0), (.iastore, [], 0)], 1, [true, true, true, true, false]),
  ([(.return_, [], 0)], 0, [false, false, false, false, false])]
/-- CourtProgress$Statutes.draftTerm(II)V -/
def ai_c77 : List ai_Bk := [([(.aload_n 0, [], 0), (.getfield 18, [7, 5, 2, 71], 0), (.aload_n 0, [], 0), (.getfield 40, [7, 6, 0, 76], 0), (.iconst 2, [], 2), (.iadd, [], 0), (.iaload, [], 0), (.iconst 4, [], 4), (.if_icmp .ge 56, [1], 0), (.aload_n 0, [], 0), (.getfield 40, [7, 6, 0, 76], 0), (.bipush 15, [], 15), (.iadd, [], 0), (.iconst 2, [], 2), (.aload_n 0, [], 0), (.getfield 18, [7, 5, 2, 71], 0), (.aload_n 0, [], 0), (.getfield 40, [7, 6, 0, 76], 0), (.iconst 2, [], 2), (.iadd, [], 0), (.iaload, [], 0), (.imul, [], 0), (.iadd, [], 0), (.istore_n 3, [], 0), (.aload_n 0, [], 0), (.getfield 18, [7, 5, 2, 71], 0), (.iload_n 3, [], 0), (.iload_n 1, [], 0), (.iastore, [], 0), (.aload_n 0, [], 0), (.getfield 18, [7, 5, 2, 71], 0), (.iload_n 3, [], 0), (.iconst 1, [], 1), (.iadd, [], 0), (.iload_n 2, [], 0), (.iastore, [], 0), (.aload_n 0, [], 0), (.getfield 18, [7, 5, 2, 71], 0), (.aload_n 0, [], 0), (.getfield 40, [7, 6, 0, 76], 0), (.iconst 2, [], 2), (.iadd, [], 0), (.dup2, [], 0), (.iaload, [], 0), (.iconst 1, [], 1), (.iadd, [], 0), (.iastore, [], 0)], 1, [true, true, true, false]),
  ([(.return_, [], 0)], 0, [false, false, false, false])]
/-- CourtProgress$Statutes.enact(I)I -/
def ai_c78 : List ai_Bk := [([(.aload_n 0, [], 0), (.getfield 32, [7, 2, 0, 75], 0), (.bipush 10, [], 10), (.if_icmp .lt 5, [1], 0), (.iconst (-1), [], (-1)), (.ireturn, [0], 0)], 0, [true, true]),
  ([(.aload_n 0, [], 0), (.getfield 11, [7, 3, 2, 69], 0), (.aload_n 0, [], 0), (.getfield 32, [7, 2, 0, 75], 0), (.iload_n 1, [], 0), (.iastore, [], 0), (.aload_n 0, [], 0), (.dup, [], 0), (.getfield 32, [7, 2, 0, 75], 0), (.iconst 1, [], 1), (.iadd, [], 0), (.putfield 32, [7, 2, 0, 75], 0), (.aload_n 0, [], 0), (.getfield 32, [7, 2, 0, 75], 0), (.iconst 1, [], 1), (.isub, [], 0), (.ireturn, [0], 0)], 0, [true, true])]
/-- CourtProgress$Statutes.inForce(I)I -/
def ai_c79 : List ai_Bk := [([(.bipush (-2), [], (-2)), (.istore_n 2, [], 0), (.iconst (-1), [], (-1)), (.istore_n 3, [], 0), (.iconst 0, [], 0), (.istore 4, [], 0)], 1, [true, true, false, false, false]),
  ([(.iload 4, [], 0), (.aload_n 0, [], 0), (.getfield 32, [7, 2, 0, 75], 0), (.if_icmp .ge 42, [3], 0), (.aload_n 0, [], 0), (.getfield 11, [7, 3, 2, 69], 0), (.iload 4, [], 0), (.iaload, [], 0), (.iload_n 1, [], 0), (.if_icmp .gt 25, [2], 0), (.aload_n 0, [], 0), (.getfield 11, [7, 3, 2, 69], 0), (.iload 4, [], 0), (.iaload, [], 0), (.iload_n 3, [], 0), (.if_icmp .lt 14, [2], 0), (.iload 4, [], 0), (.istore_n 2, [], 0), (.aload_n 0, [], 0), (.getfield 11, [7, 3, 2, 69], 0), (.iload 4, [], 0), (.iaload, [], 0), (.istore_n 3, [], 0)], 2, [true, true, true, true, true]),
  ([(.iinc 4 1, [], 1), (.goto (-45), [1], 0)], 0, [true, true, true, true, true]),
  ([(.iload_n 2, [], 0), (.ireturn, [0], 0)], 0, [false, false, true, false, false])]
/-- CourtProgress$Statutes.portion(IIZ)I -/
def ai_c80 : List ai_Bk := [([(.aload_n 0, [], 0), (.iload_n 2, [], 0), (.invokevirtual 43, [79, 2, 7, 0, 65], 0)], 1, [true, true, true, true, false]),
  ([(.istore 4, [], 0), (.iload 4, [], 0), (.ifCond .lt 14, [3], 0), (.aload_n 0, [], 0), (.getfield 24, [7, 0, 2, 73], 0), (.iload_n 1, [], 0), (.invokevirtual 47, [7, 2, 1, 0, 66], 0)], 2, [true, true, true, true, false]),
  ([(.ifCond .ne 5, [4], 0)], 3, [true, true, true, true, true]),
  ([(.iconst 0, [], 0), (.ireturn, [0], 0)], 0, [false, false, false, false, false]),
  ([(.aload_n 0, [], 0), (.iload_n 2, [], 0), (.invokevirtual 53, [82, 2, 7, 0, 67], 0)], 5, [true, true, true, true, true]),
  ([(.aload_n 0, [], 0), (.iload_n 1, [], 0), (.invokevirtual 57, [83, 2, 7, 0, 68], 0)], 6, [true, true, false, true, true]),
  ([(.aload_n 0, [], 0), (.iload 4, [], 0), (.iload_n 3, [], 0), (.ifCond .eq 7, [7], 0), (.iconst 1, [], 1), (.goto 4, [8], 0)], 0, [true, false, false, true, true]),
  ([(.iconst 0, [], 0)], 8, [false, false, false, false, false]),
  ([(.invokevirtual 60, [84, 3, 7, 0, 69], 0)], 9, [false, false, false, false, false]),
  ([(.ireturn, [0], 0)], 0, [false, false, false, false, false])]
/-- CourtProgress$Statutes.needOf(I)I -/
def ai_c81 : List ai_Bk := [([(.aload_n 0, [], 0), (.iload_n 1, [], 0), (.invokevirtual 43, [79, 2, 7, 0, 65], 0)], 1, [true, true, false, false, false, false]),
  ([(.istore_n 2, [], 0), (.iload_n 2, [], 0), (.ifCond .ge 5, [2], 0), (.iconst 0, [], 0), (.ireturn, [0], 0)], 0, [true, true, false, false, false, false]),
  ([(.aload_n 0, [], 0), (.iload_n 1, [], 0), (.invokevirtual 53, [82, 2, 7, 0, 67], 0)], 3, [true, true, true, false, false, false]),
  ([(.lconst 0, [], 0), (.lstore_n 3, [], 0), (.iconst 0, [], 0), (.istore 5, [], 0)], 4, [true, false, true, false, false, false]),
  ([(.iload 5, [], 0), (.aload_n 0, [], 0), (.getfield 24, [7, 0, 2, 73], 0), (.getfield 63, [1, 0, 0, 77], 0), (.if_icmp .ge 76, [10], 0), (.aload_n 0, [], 0), (.iload 5, [], 0), (.invokevirtual 57, [83, 2, 7, 0, 68], 0)], 5, [true, false, true, true, false, true]),
  ([(.lload_n 3, [], 0), (.aload_n 0, [], 0), (.getfield 24, [7, 0, 2, 73], 0), (.getfield 64, [1, 2, 2, 78], 0), (.iload 5, [], 0), (.iaload, [], 0), (.i2l, [], 0), (.aload_n 0, [], 0), (.iload_n 2, [], 0), (.iconst 0, [], 0), (.invokevirtual 60, [84, 3, 7, 0, 69], 0)], 6, [true, false, true, true, false, true]),
  ([(.i2l, [], 0), (.lmul, [], 0), (.ladd, [], 0), (.lstore_n 3, [], 0), (.lload_n 3, [], 0), (.aload_n 0, [], 0), (.getfield 24, [7, 0, 2, 73], 0), (.getfield 67, [1, 3, 2, 79], 0), (.iload 5, [], 0), (.iaload, [], 0), (.ifCond .ne 7, [7], 0), (.lconst 0, [], 0), (.goto 22, [9], 0)], 0, [true, false, true, false, false, true]),
  ([(.aload_n 0, [], 0), (.getfield 24, [7, 0, 2, 73], 0), (.getfield 67, [1, 3, 2, 79], 0), (.iload 5, [], 0), (.iaload, [], 0), (.i2l, [], 0), (.aload_n 0, [], 0), (.iload_n 2, [], 0), (.iconst 1, [], 1), (.invokevirtual 60, [84, 3, 7, 0, 69], 0)], 8, [true, false, true, false, false, true]),
  ([(.i2l, [], 0), (.lmul, [], 0)], 9, [true, false, true, false, false, true]),
  ([(.ladd, [], 0), (.lstore_n 3, [], 0), (.iinc 5 1, [], 1), (.goto (-82), [4], 0)], 0, [true, false, true, false, false, true]),
  ([(.lload_n 3, [], 0), (.ldc2_w 70, [], 1000000), (.invokestatic 72, [213, 2, 999, 0, 70], 0)], 11, [false, false, false, true, false, false]),
  ([(.l2i, [], 0), (.ireturn, [0], 0)], 0, [false, false, false, false, false, false])]
/-- CourtProgress$Statutes.setDay(I)V -/
def ai_c82 : List ai_Bk := [([(.aload_n 0, [], 0), (.getfield 21, [7, 7, 2, 72], 0), (.iconst 3, [], 3), (.iload_n 1, [], 0), (.iastore, [], 0), (.aload_n 0, [], 0), (.getfield 21, [7, 7, 2, 72], 0), (.iconst 4, [], 4), (.aload_n 0, [], 0), (.getfield 28, [7, 1, 2, 74], 0), (.iload_n 1, [], 0), (.invokevirtual 78, [2, 2, 0, 0, 71], 0)], 1, [true, true]),
  ([(.iastore, [], 0), (.aload_n 0, [], 0), (.getfield 21, [7, 7, 2, 72], 0), (.iconst 5, [], 5), (.aload_n 0, [], 0), (.getfield 28, [7, 1, 2, 74], 0), (.iload_n 1, [], 0), (.invokevirtual 83, [3, 2, 0, 0, 72], 0)], 2, [true, true]),
  ([(.iconst (-1), [], (-1)), (.if_icmp .ne 7, [3], 0), (.iconst 0, [], 0), (.goto 4, [4], 0)], 0, [false, false]),
  ([(.iconst 1, [], 1)], 4, [false, false]),
  ([(.iastore, [], 0), (.return_, [], 0)], 0, [false, false])]
/-- CourtProgress$Statutes.setHousehold(I)V -/
def ai_c83 : List ai_Bk := [([(.aload_n 0, [], 0), (.getfield 24, [7, 0, 2, 73], 0), (.iload_n 1, [], 0), (.invokevirtual 47, [7, 2, 1, 0, 66], 0)], 1, [true, true]),
  ([(.ifCond .eq 48, [2], 0), (.aload_n 0, [], 0), (.getfield 21, [7, 7, 2, 72], 0), (.iconst 0, [], 0), (.aload_n 0, [], 0), (.getfield 24, [7, 0, 2, 73], 0), (.getfield 86, [1, 1, 2, 80], 0), (.iload_n 1, [], 0), (.iaload, [], 0), (.iastore, [], 0), (.aload_n 0, [], 0), (.getfield 21, [7, 7, 2, 72], 0), (.iconst 1, [], 1), (.aload_n 0, [], 0), (.getfield 24, [7, 0, 2, 73], 0), (.getfield 64, [1, 2, 2, 78], 0), (.iload_n 1, [], 0), (.iaload, [], 0), (.iastore, [], 0), (.aload_n 0, [], 0), (.getfield 21, [7, 7, 2, 72], 0), (.iconst 2, [], 2), (.aload_n 0, [], 0), (.getfield 24, [7, 0, 2, 73], 0), (.getfield 67, [1, 3, 2, 79], 0), (.iload_n 1, [], 0), (.iaload, [], 0), (.iastore, [], 0)], 2, [true, true]),
  ([(.return_, [], 0)], 0, [false, false])]
/-- CourtProgress$Statutes.firstSum(II)I -/
def ai_c84 : List ai_Bk := [([(.iload_n 1, [], 0), (.ifCond .lt 11, [1], 0), (.iload_n 1, [], 0), (.aload_n 0, [], 0), (.getfield 32, [7, 2, 0, 75], 0), (.if_icmp .lt 5, [2], 0)], 1, [true, true, true, false, false]),
  ([(.iconst 0, [], 0), (.ireturn, [0], 0)], 0, [false, false, false, false, false]),
  ([(.iconst 0, [], 0), (.istore_n 3, [], 0)], 3, [true, true, true, false, false]),
  ([(.iload_n 3, [], 0), (.aload_n 0, [], 0), (.getfield 15, [7, 4, 2, 70], 0), (.iload_n 1, [], 0), (.iaload, [], 0), (.if_icmp .ge 43, [8], 0), (.iload_n 1, [], 0), (.iload_n 3, [], 0), (.invokestatic 36, [88, 2, 999, 0, 64], 0)], 4, [true, true, true, true, false]),
  ([(.istore 4, [], 0), (.aload_n 0, [], 0), (.getfield 18, [7, 5, 2, 71], 0), (.iload 4, [], 0), (.iaload, [], 0), (.iload_n 2, [], 0), (.if_icmp .ne 19, [7], 0), (.aload_n 0, [], 0), (.iload 4, [], 0), (.invokevirtual 89, [85, 2, 7, 0, 73], 0)], 5, [true, true, true, true, false]),
  ([(.ifCond .eq 10, [7], 0), (.aload_n 0, [], 0), (.iload 4, [], 0), (.invokevirtual 92, [86, 2, 7, 0, 74], 0)], 6, [true, true, true, true, true]),
  ([(.ireturn, [0], 0)], 0, [false, false, false, false, false]),
  ([(.iinc 3 1, [], 1), (.goto (-47), [3], 0)], 0, [true, true, true, true, false]),
  ([(.iconst 0, [], 0), (.ireturn, [0], 0)], 0, [false, false, false, false, false])]
/-- CourtProgress$Statutes.testsHold(I)Z -/
def ai_c85 : List ai_Bk := [([(.iload_n 1, [], 0), (.iconst 3, [], 3), (.iadd, [], 0), (.iconst 3, [], 3), (.aload_n 0, [], 0), (.getfield 18, [7, 5, 2, 71], 0), (.iload_n 1, [], 0), (.iconst 1, [], 1), (.iadd, [], 0), (.iaload, [], 0), (.imul, [], 0), (.iadd, [], 0), (.istore_n 2, [], 0), (.iload_n 1, [], 0), (.iconst 3, [], 3), (.iadd, [], 0), (.istore_n 3, [], 0)], 1, [true, true, false, false, false, false, false]),
  ([(.iload_n 3, [], 0), (.iload_n 2, [], 0), (.if_icmp .ge 120, [14], 0), (.aload_n 0, [], 0), (.aload_n 0, [], 0), (.getfield 18, [7, 5, 2, 71], 0), (.iload_n 3, [], 0), (.iaload, [], 0), (.invokevirtual 95, [87, 2, 7, 0, 75], 0)], 2, [true, false, true, true, false, false, false]),
  ([(.istore 4, [], 0), (.aload_n 0, [], 0), (.getfield 18, [7, 5, 2, 71], 0), (.iload_n 3, [], 0), (.iconst 2, [], 2), (.iadd, [], 0), (.iaload, [], 0), (.istore 5, [], 0), (.aload_n 0, [], 0), (.getfield 18, [7, 5, 2, 71], 0), (.iload_n 3, [], 0), (.iconst 1, [], 1), (.iadd, [], 0), (.iaload, [], 0), (.lookupswitch 60 #[(60, 26), (62, 43)], [9, 3, 6], 0)], 0, [true, false, true, true, false, false, false]),
  ([(.iload 4, [], 0), (.iload 5, [], 0), (.if_icmp .ge 7, [4], 0), (.iconst 1, [], 1), (.goto 4, [5], 0)], 0, [true, false, true, true, true, true, false]),
  ([(.iconst 0, [], 0)], 5, [true, false, true, true, false, false, false]),
  ([(.istore 6, [], 0), (.goto 34, [12], 0)], 0, [true, false, true, true, false, false, false]),
  ([(.iload 4, [], 0), (.iload 5, [], 0), (.if_icmp .le 7, [7], 0), (.iconst 1, [], 1), (.goto 4, [8], 0)], 0, [true, false, true, true, true, true, false]),
  ([(.iconst 0, [], 0)], 8, [true, false, true, true, false, false, false]),
  ([(.istore 6, [], 0), (.goto 17, [12], 0)], 0, [true, false, true, true, false, false, false]),
  ([(.iload 4, [], 0), (.iload 5, [], 0), (.if_icmp .ne 7, [10], 0), (.iconst 1, [], 1), (.goto 4, [11], 0)], 0, [true, false, true, true, true, true, false]),
  ([(.iconst 0, [], 0)], 11, [true, false, true, true, false, false, false]),
  ([(.istore 6, [], 0)], 12, [true, false, true, true, false, false, false]),
  ([(.iload 6, [], 0), (.ifCond .ne 5, [13], 0), (.iconst 0, [], 0), (.ireturn, [1], 0)], 0, [true, false, true, true, false, false, true]),
  ([(.iinc 3 3, [], 3), (.goto (-119), [1], 0)], 0, [true, false, true, true, false, false, false]),
  ([(.iconst 1, [], 1), (.ireturn, [1], 0)], 0, [false, false, false, false, false, false, false])]
/-- CourtProgress$Statutes.sumOf(I)I -/
def ai_c86 : List ai_Bk := [([(.iconst 0, [], 0), (.istore_n 2, [], 0), (.iload_n 1, [], 0), (.bipush 15, [], 15), (.iadd, [], 0), (.iconst 2, [], 2), (.aload_n 0, [], 0), (.getfield 18, [7, 5, 2, 71], 0), (.iload_n 1, [], 0), (.iconst 2, [], 2), (.iadd, [], 0), (.iaload, [], 0), (.imul, [], 0), (.iadd, [], 0), (.istore_n 3, [], 0), (.iload_n 1, [], 0), (.bipush 15, [], 15), (.iadd, [], 0), (.istore 4, [], 0)], 1, [true, true, false, false, false]),
  ([(.iload 4, [], 0), (.iload_n 3, [], 0), (.if_icmp .ge 33, [3], 0), (.iload_n 2, [], 0), (.aload_n 0, [], 0), (.getfield 18, [7, 5, 2, 71], 0), (.iload 4, [], 0), (.iaload, [], 0), (.aload_n 0, [], 0), (.aload_n 0, [], 0), (.getfield 18, [7, 5, 2, 71], 0), (.iload 4, [], 0), (.iconst 1, [], 1), (.iadd, [], 0), (.iaload, [], 0), (.invokevirtual 95, [87, 2, 7, 0, 75], 0)], 2, [true, false, true, true, true]),
  ([(.imul, [], 0), (.iadd, [], 0), (.istore_n 2, [], 0), (.iinc 4 2, [], 2), (.goto (-33), [1], 0)], 0, [true, false, false, true, true]),
  ([(.iload_n 2, [], 0), (.ireturn, [0], 0)], 0, [false, false, true, false, false])]
/-- CourtProgress$Statutes.valueOf(I)I -/
def ai_c87 : List ai_Bk := [([(.iload_n 1, [], 0), (.ifCond .lt 18, [1], 0), (.iload_n 1, [], 0), (.bipush 6, [], 6), (.if_icmp .gt 12, [1], 0), (.aload_n 0, [], 0), (.getfield 21, [7, 7, 2, 72], 0), (.iload_n 1, [], 0), (.iaload, [], 0), (.goto 4, [2], 0)], 0, [true, true]),
  ([(.iconst 0, [], 0)], 2, [false, false]),
  ([(.ireturn, [0], 0)], 0, [false, false])]
/-- CourtProgress$Statutes.rowOf(II)I -/
def ai_c88 : List ai_Bk := [([(.iload_n 0, [], 0), (.bipush 12, [], 12), (.imul, [], 0), (.iload_n 1, [], 0), (.iadd, [], 0), (.bipush 23, [], 23), (.imul, [], 0), (.ireturn, [0], 0)], 0, [true, true])]
/-- CourtProgress$Tape.<init>()V -/
def ai_c89 : List ai_Bk := [([(.aload_n 0, [], 0), (.invokespecial 3, [998, 1, 999, 0, 0], 0), (.aload_n 0, [], 0), (.sipush 400, [], 400), (.newarray .int, [1], 0), (.putfield 11, [8, 1, 2, 81], 0), (.aload_n 0, [], 0), (.sipush 401, [], 401), (.newarray .int, [1], 0), (.putfield 15, [8, 4, 2, 82], 0), (.aload_n 0, [], 0), (.sipush 401, [], 401), (.newarray .int, [1], 0), (.putfield 18, [8, 5, 2, 83], 0), (.return_, [], 0)], 0, [true])]
/-- CourtProgress$Tape.hasRoom()Z -/
def ai_c90 : List ai_Bk := [([(.aload_n 0, [], 0), (.getfield 21, [8, 0, 0, 84], 0), (.sipush 380, [], 380), (.if_icmp .gt 7, [1], 0), (.iconst 1, [], 1), (.goto 4, [2], 0)], 0, [true]),
  ([(.iconst 0, [], 0)], 2, [false]),
  ([(.ireturn, [1], 0)], 0, [false])]
/-- CourtProgress$Tape.append(I)V -/
def ai_c91 : List ai_Bk := [([(.bipush 24, [], 24), (.istore_n 2, [], 0)], 1, [true, true, false]),
  ([(.iload_n 2, [], 0), (.ifCond .lt 45, [2], 0), (.aload_n 0, [], 0), (.getfield 21, [8, 0, 0, 84], 0), (.sipush 400, [], 400), (.if_icmp .ge 35, [2], 0), (.aload_n 0, [], 0), (.getfield 11, [8, 1, 2, 81], 0), (.aload_n 0, [], 0), (.getfield 21, [8, 0, 0, 84], 0), (.iload_n 1, [], 0), (.iload_n 2, [], 0), (.iushr, [], 0), (.sipush 255, [], 255), (.iand, [], 0), (.iastore, [], 0), (.aload_n 0, [], 0), (.dup, [], 0), (.getfield 21, [8, 0, 0, 84], 0), (.iconst 1, [], 1), (.iadd, [], 0), (.putfield 21, [8, 0, 0, 84], 0), (.iinc 2 (-8), [], (-8)), (.goto (-43), [1], 0)], 0, [true, true, true]),
  ([(.return_, [], 0)], 0, [false, false, false])]
/-- CourtProgress$Tape.tokenAt(I)I -/
def ai_c92 : List ai_Bk := [([(.iload_n 1, [], 0), (.ifCond .lt 20, [1], 0), (.iload_n 1, [], 0), (.aload_n 0, [], 0), (.getfield 25, [8, 3, 0, 85], 0), (.if_icmp .ge 12, [1], 0), (.aload_n 0, [], 0), (.getfield 15, [8, 4, 2, 82], 0), (.iload_n 1, [], 0), (.iaload, [], 0), (.goto 4, [2], 0)], 0, [true, true]),
  ([(.iconst (-1), [], (-1))], 2, [false, false]),
  ([(.ireturn, [0], 0)], 0, [false, false])]
/-- CourtProgress$Tape.placeAt(I)I -/
def ai_c93 : List ai_Bk := [([(.iload_n 1, [], 0), (.ifCond .lt 20, [1], 0), (.iload_n 1, [], 0), (.aload_n 0, [], 0), (.getfield 25, [8, 3, 0, 85], 0), (.if_icmp .ge 12, [1], 0), (.aload_n 0, [], 0), (.getfield 18, [8, 5, 2, 83], 0), (.iload_n 1, [], 0), (.iaload, [], 0), (.goto 4, [2], 0)], 0, [true, true]),
  ([(.iconst (-1), [], (-1))], 2, [false, false]),
  ([(.ireturn, [0], 0)], 0, [false, false])]
/-- CourtProgress$Tape.scan(I)V -/
def ai_c94 : List ai_Bk := [([(.aload_n 0, [], 0), (.iconst 0, [], 0), (.iload_n 1, [], 0), (.aload_n 0, [], 0), (.getfield 21, [8, 0, 0, 84], 0), (.invokestatic 28, [212, 2, 999, 0, 76], 0)], 1, [true, true, false, false, false]),
  ([(.invokestatic 34, [211, 2, 999, 0, 77], 0)], 2, [true, false, false, false, false]),
  ([(.putfield 37, [8, 2, 0, 86], 0), (.aload_n 0, [], 0), (.iconst 0, [], 0), (.putfield 25, [8, 3, 0, 85], 0), (.iconst 0, [], 0), (.istore_n 2, [], 0), (.iconst 0, [], 0), (.istore_n 3, [], 0)], 3, [true, false, false, false, false]),
  ([(.aload_n 0, [], 0), (.getfield 25, [8, 3, 0, 85], 0), (.sipush 400, [], 400), (.if_icmp .gt 71, [7], 0), (.iload_n 2, [], 0), (.iconst (-1), [], (-1)), (.if_icmp .eq 66, [7], 0), (.iload_n 2, [], 0), (.bipush (-2), [], (-2)), (.if_icmp .eq 60, [7], 0), (.aload_n 0, [], 0), (.iload_n 3, [], 0), (.invokevirtual 40, [95, 2, 8, 0, 78], 0)], 4, [true, false, true, true, false]),
  ([(.istore_n 3, [], 0), (.aload_n 0, [], 0), (.iload_n 3, [], 0), (.invokevirtual 44, [96, 2, 8, 0, 79], 0)], 5, [true, false, false, false, false]),
  ([(.istore 4, [], 0), (.aload_n 0, [], 0), (.iload_n 3, [], 0), (.iload 4, [], 0), (.invokevirtual 47, [97, 3, 8, 0, 80], 0)], 6, [true, false, false, true, false]),
  ([(.istore_n 2, [], 0), (.aload_n 0, [], 0), (.getfield 15, [8, 4, 2, 82], 0), (.aload_n 0, [], 0), (.getfield 25, [8, 3, 0, 85], 0), (.iload_n 2, [], 0), (.iastore, [], 0), (.aload_n 0, [], 0), (.getfield 18, [8, 5, 2, 83], 0), (.aload_n 0, [], 0), (.getfield 25, [8, 3, 0, 85], 0), (.iload_n 3, [], 0), (.iastore, [], 0), (.aload_n 0, [], 0), (.dup, [], 0), (.getfield 25, [8, 3, 0, 85], 0), (.iconst 1, [], 1), (.iadd, [], 0), (.putfield 25, [8, 3, 0, 85], 0), (.iload 4, [], 0), (.istore_n 3, [], 0), (.goto (-75), [3], 0)], 0, [true, false, false, true, true]),
  ([(.return_, [], 0)], 0, [false, false, false, false, false])]
/-- CourtProgress$Tape.skipBlanks(I)I -/
def ai_c95 : List ai_Bk := [([(.iload_n 1, [], 0), (.istore_n 2, [], 0)], 1, [true, true, false]),
  ([(.iload_n 2, [], 0), (.aload_n 0, [], 0), (.getfield 37, [8, 2, 0, 86], 0), (.if_icmp .ge 19, [3], 0), (.aload_n 0, [], 0), (.iload_n 2, [], 0), (.invokevirtual 50, [215, 2, 8, 0, 81], 0)], 2, [true, false, true]),
  ([(.bipush 32, [], 32), (.if_icmp .ne 9, [3], 0), (.iinc 2 1, [], 1), (.goto (-21), [1], 0)], 0, [true, false, true]),
  ([(.iload_n 2, [], 0), (.ireturn, [0], 0)], 0, [false, false, true])]
/-- CourtProgress$Tape.tokenEnd(I)I -/
def ai_c96 : List ai_Bk := [([(.iload_n 1, [], 0), (.istore_n 2, [], 0), (.aload_n 0, [], 0), (.iload_n 1, [], 0), (.invokevirtual 53, [101, 2, 8, 0, 82], 0)], 1, [true, true, false]),
  ([(.ifCond .eq 25, [4], 0)], 2, [true, true, true]),
  ([(.iload_n 2, [], 0), (.aload_n 0, [], 0), (.getfield 37, [8, 2, 0, 86], 0), (.if_icmp .ge 50, [9], 0), (.aload_n 0, [], 0), (.iload_n 2, [], 0), (.invokevirtual 53, [101, 2, 8, 0, 82], 0)], 3, [true, false, true]),
  ([(.ifCond .eq 42, [9], 0), (.iinc 2 1, [], 1), (.goto (-19), [2], 0)], 0, [true, false, true]),
  ([(.aload_n 0, [], 0), (.iload_n 1, [], 0), (.invokevirtual 57, [102, 2, 8, 0, 83], 0)], 5, [true, true, true]),
  ([(.ifCond .eq 25, [8], 0)], 6, [true, false, true]),
  ([(.iload_n 2, [], 0), (.aload_n 0, [], 0), (.getfield 37, [8, 2, 0, 86], 0), (.if_icmp .ge 20, [9], 0), (.aload_n 0, [], 0), (.iload_n 2, [], 0), (.invokevirtual 57, [102, 2, 8, 0, 83], 0)], 7, [true, false, true]),
  ([(.ifCond .eq 12, [9], 0), (.iinc 2 1, [], 1), (.goto (-19), [6], 0)], 0, [true, false, true]),
  ([(.iinc 2 1, [], 1)], 9, [false, false, true]),
  ([(.iload_n 2, [], 0), (.ireturn, [0], 0)], 0, [false, false, true])]
/-- CourtProgress$Tape.tokenOf(II)I -/
def ai_c97 : List ai_Bk := [([(.iload_n 1, [], 0), (.aload_n 0, [], 0), (.getfield 37, [8, 2, 0, 86], 0), (.if_icmp .lt 5, [1], 0), (.iconst (-1), [], (-1)), (.ireturn, [0], 0)], 0, [true, true, true]),
  ([(.aload_n 0, [], 0), (.iload_n 1, [], 0), (.invokevirtual 53, [101, 2, 8, 0, 82], 0)], 2, [true, true, true]),
  ([(.ifCond .eq 23, [5], 0), (.iload_n 2, [], 0), (.iload_n 1, [], 0), (.isub, [], 0), (.bipush 8, [], 8), (.if_icmp .le 8, [3], 0), (.bipush (-2), [], (-2)), (.goto 9, [4], 0)], 0, [true, true, true]),
  ([(.aload_n 0, [], 0), (.iload_n 1, [], 0), (.iload_n 2, [], 0), (.invokevirtual 60, [99, 3, 8, 0, 84], 0)], 4, [true, true, true]),
  ([(.ireturn, [0], 0)], 0, [false, false, false]),
  ([(.aload_n 0, [], 0), (.iload_n 1, [], 0), (.invokevirtual 57, [102, 2, 8, 0, 83], 0)], 6, [true, true, true]),
  ([(.ifCond .eq 22, [9], 0), (.iload_n 2, [], 0), (.iload_n 1, [], 0), (.isub, [], 0), (.iconst 3, [], 3), (.if_icmp .le 8, [7], 0), (.bipush (-2), [], (-2)), (.goto 9, [8], 0)], 0, [true, true, true]),
  ([(.aload_n 0, [], 0), (.iload_n 1, [], 0), (.iload_n 2, [], 0), (.invokevirtual 63, [98, 3, 8, 0, 85], 0)], 8, [true, true, true]),
  ([(.ireturn, [0], 0)], 0, [false, false, false]),
  ([(.aload_n 0, [], 0), (.iload_n 1, [], 0), (.invokevirtual 50, [215, 2, 8, 0, 81], 0)], 10, [true, true, false]),
  ([(.invokestatic 66, [103, 1, 999, 0, 86], 0)], 11, [true, true, false]),
  ([(.ifCond .eq 11, [13], 0), (.aload_n 0, [], 0), (.iload_n 1, [], 0), (.invokevirtual 50, [215, 2, 8, 0, 81], 0)], 12, [true, true, false]),
  ([(.goto 5, [14], 0)], 0, [false, false, false]),
  ([(.bipush (-2), [], (-2))], 14, [false, false, false]),
  ([(.ireturn, [0], 0)], 0, [false, false, false])]
/-- CourtProgress$Tape.numberOf(II)I -/
def ai_c98 : List ai_Bk := [([(.iconst 0, [], 0), (.istore_n 3, [], 0), (.iload_n 1, [], 0), (.istore 4, [], 0)], 1, [true, true, true, false, false]),
  ([(.iload 4, [], 0), (.iload_n 2, [], 0), (.if_icmp .ge 24, [3], 0), (.iload_n 3, [], 0), (.bipush 10, [], 10), (.imul, [], 0), (.aload_n 0, [], 0), (.iload 4, [], 0), (.invokevirtual 50, [215, 2, 8, 0, 81], 0)], 2, [true, false, true, true, true]),
  ([(.iadd, [], 0), (.bipush 48, [], 48), (.isub, [], 0), (.istore_n 3, [], 0), (.iinc 4 1, [], 1), (.goto (-24), [1], 0)], 0, [true, false, true, false, true]),
  ([(.sipush 1000, [], 1000), (.iload_n 3, [], 0), (.iadd, [], 0), (.ireturn, [0], 0)], 0, [false, false, false, true, false])]
/-- CourtProgress$Tape.wordOf(II)I -/
def ai_c99 : List ai_Bk := [([(.aload_n 0, [], 0), (.ldc 69, [0], 0), (.iload_n 1, [], 0), (.iload_n 2, [], 0), (.invokevirtual 71, [100, 4, 8, 0, 87], 0)], 1, [true, true, true]),
  ([(.ifCond .eq 5, [2], 0), (.iconst 0, [], 0), (.ireturn, [0], 0)], 0, [true, true, true]),
  ([(.aload_n 0, [], 0), (.ldc 77, [1], 0), (.iload_n 1, [], 0), (.iload_n 2, [], 0), (.invokevirtual 71, [100, 4, 8, 0, 87], 0)], 3, [true, true, true]),
  ([(.ifCond .eq 5, [4], 0), (.iconst 1, [], 1), (.ireturn, [0], 0)], 0, [true, true, true]),
  ([(.aload_n 0, [], 0), (.ldc 79, [2], 0), (.iload_n 1, [], 0), (.iload_n 2, [], 0), (.invokevirtual 71, [100, 4, 8, 0, 87], 0)], 5, [true, true, true]),
  ([(.ifCond .eq 5, [6], 0), (.iconst 2, [], 2), (.ireturn, [0], 0)], 0, [true, true, true]),
  ([(.aload_n 0, [], 0), (.ldc 81, [3], 0), (.iload_n 1, [], 0), (.iload_n 2, [], 0), (.invokevirtual 71, [100, 4, 8, 0, 87], 0)], 7, [true, true, true]),
  ([(.ifCond .eq 5, [8], 0), (.iconst 3, [], 3), (.ireturn, [0], 0)], 0, [true, true, true]),
  ([(.aload_n 0, [], 0), (.ldc 83, [4], 0), (.iload_n 1, [], 0), (.iload_n 2, [], 0), (.invokevirtual 71, [100, 4, 8, 0, 87], 0)], 9, [true, true, true]),
  ([(.ifCond .eq 5, [10], 0), (.iconst 4, [], 4), (.ireturn, [0], 0)], 0, [true, true, true]),
  ([(.aload_n 0, [], 0), (.ldc 85, [5], 0), (.iload_n 1, [], 0), (.iload_n 2, [], 0), (.invokevirtual 71, [100, 4, 8, 0, 87], 0)], 11, [true, true, true]),
  ([(.ifCond .eq 5, [12], 0), (.iconst 5, [], 5), (.ireturn, [0], 0)], 0, [true, true, true]),
  ([(.aload_n 0, [], 0), (.ldc 87, [6], 0), (.iload_n 1, [], 0), (.iload_n 2, [], 0), (.invokevirtual 71, [100, 4, 8, 0, 87], 0)], 13, [true, true, true]),
  ([(.ifCond .eq 7, [14], 0), (.sipush 257, [], 257), (.ireturn, [0], 0)], 0, [true, true, true]),
  ([(.aload_n 0, [], 0), (.ldc 89, [7], 0), (.iload_n 1, [], 0), (.iload_n 2, [], 0), (.invokevirtual 71, [100, 4, 8, 0, 87], 0)], 15, [true, true, true]),
  ([(.ifCond .eq 7, [16], 0), (.sipush 258, [], 258), (.ireturn, [0], 0)], 0, [true, true, true]),
  ([(.aload_n 0, [], 0), (.ldc 91, [8], 0), (.iload_n 1, [], 0), (.iload_n 2, [], 0), (.invokevirtual 71, [100, 4, 8, 0, 87], 0)], 17, [true, true, true]),
  ([(.ifCond .eq 7, [18], 0), (.sipush 259, [], 259), (.ireturn, [0], 0)], 0, [true, true, true]),
  ([(.aload_n 0, [], 0), (.ldc 93, [9], 0), (.iload_n 1, [], 0), (.iload_n 2, [], 0), (.invokevirtual 71, [100, 4, 8, 0, 87], 0)], 19, [true, true, true]),
  ([(.ifCond .eq 7, [20], 0), (.sipush 260, [], 260), (.ireturn, [0], 0)], 0, [false, false, false]),
  ([(.sipush 256, [], 256), (.ireturn, [0], 0)], 0, [false, false, false])]
/-- CourtProgress$Tape.spells(Ljava/lang/String;II)Z -/
def ai_c100 : List ai_Bk := [([(.iload_n 3, [], 0), (.iload_n 2, [], 0), (.isub, [], 0), (.aload_n 1, [], 0), (.invokevirtual 95, [300, 1, 998, 0, 88], 0)], 1, [true, true, true, true, false]),
  ([(.if_icmp .eq 5, [2], 0), (.iconst 0, [], 0), (.ireturn, [1], 0)], 0, [true, true, true, false, false]),
  ([(.iconst 0, [], 0), (.istore 4, [], 0)], 3, [true, true, true, false, false]),
  ([(.iload 4, [], 0), (.aload_n 1, [], 0), (.invokevirtual 95, [300, 1, 998, 0, 88], 0)], 4, [true, true, true, false, true]),
  ([(.if_icmp .ge 28, [8], 0), (.aload_n 0, [], 0), (.iload_n 2, [], 0), (.iload 4, [], 0), (.iadd, [], 0), (.invokevirtual 50, [215, 2, 8, 0, 81], 0)], 5, [true, true, true, false, true]),
  ([(.aload_n 1, [], 0), (.iload 4, [], 0), (.invokevirtual 100, [301, 2, 998, 0, 89], 0)], 6, [true, true, true, false, true]),
  ([(.if_icmp .eq 5, [7], 0), (.iconst 0, [], 0), (.ireturn, [1], 0)], 0, [true, true, true, false, true]),
  ([(.iinc 4 1, [], 1), (.goto (-31), [3], 0)], 0, [true, true, true, false, true]),
  ([(.iconst 1, [], 1), (.ireturn, [1], 0)], 0, [false, false, false, false, false])]
/-- CourtProgress$Tape.isLetter(I)Z -/
def ai_c101 : List ai_Bk := [([(.aload_n 0, [], 0), (.iload_n 1, [], 0), (.invokevirtual 50, [215, 2, 8, 0, 81], 0)], 1, [true, true]),
  ([(.bipush 97, [], 97), (.if_icmp .lt 17, [3], 0), (.aload_n 0, [], 0), (.iload_n 1, [], 0), (.invokevirtual 50, [215, 2, 8, 0, 81], 0)], 2, [true, true]),
  ([(.bipush 122, [], 122), (.if_icmp .gt 7, [3], 0), (.iconst 1, [], 1), (.goto 4, [4], 0)], 0, [false, false]),
  ([(.iconst 0, [], 0)], 4, [false, false]),
  ([(.ireturn, [1], 0)], 0, [false, false])]
/-- CourtProgress$Tape.isDigit(I)Z -/
def ai_c102 : List ai_Bk := [([(.aload_n 0, [], 0), (.iload_n 1, [], 0), (.invokevirtual 50, [215, 2, 8, 0, 81], 0)], 1, [true, true]),
  ([(.bipush 48, [], 48), (.if_icmp .lt 17, [3], 0), (.aload_n 0, [], 0), (.iload_n 1, [], 0), (.invokevirtual 50, [215, 2, 8, 0, 81], 0)], 2, [true, true]),
  ([(.bipush 57, [], 57), (.if_icmp .gt 7, [3], 0), (.iconst 1, [], 1), (.goto 4, [4], 0)], 0, [false, false]),
  ([(.iconst 0, [], 0)], 4, [false, false]),
  ([(.ireturn, [1], 0)], 0, [false, false])]
/-- CourtProgress$Tape.isSign(I)Z -/
def ai_c103 : List ai_Bk := [([(.iload_n 0, [], 0), (.bipush 60, [], 60), (.if_icmp .eq 33, [1], 0), (.iload_n 0, [], 0), (.bipush 62, [], 62), (.if_icmp .eq 27, [1], 0), (.iload_n 0, [], 0), (.bipush 61, [], 61), (.if_icmp .eq 21, [1], 0), (.iload_n 0, [], 0), (.bipush 43, [], 43), (.if_icmp .eq 15, [1], 0), (.iload_n 0, [], 0), (.bipush 42, [], 42), (.if_icmp .eq 9, [1], 0), (.iload_n 0, [], 0), (.bipush 59, [], 59), (.if_icmp .ne 7, [2], 0)], 1, [true]),
  ([(.iconst 1, [], 1), (.goto 4, [3], 0)], 0, [false]),
  ([(.iconst 0, [], 0)], 3, [false]),
  ([(.ireturn, [1], 0)], 0, [false])]
/-- CourtProgress.<init>()V -/
def ai_c104 : List ai_Bk := [([(.aload_n 0, [], 0), (.invokespecial 1, [998, 1, 999, 0, 0], 0), (.aload_n 0, [], 0), (.bipush 8, [], 8), (.newarray .int, [1], 0), (.putfield 9, [9, 9, 2, 87], 0), (.aload_n 0, [], 0), (.sipush 200, [], 200), (.newarray .int, [1], 0), (.putfield 13, [9, 10, 2, 88], 0), (.aload_n 0, [], 0), (.sipush 200, [], 200), (.newarray .int, [1], 0), (.putfield 16, [9, 11, 2, 89], 0), (.aload_n 0, [], 0), (.new 19, [1], 0), (.dup, [], 0), (.invokespecial 21, [6, 1, 1, 0, 90], 0)], 1, [true, false]),
  ([(.putfield 22, [9, 0, 2, 90], 0), (.aload_n 0, [], 0), (.new 26, [3], 0), (.dup, [], 0), (.invokespecial 28, [32, 1, 3, 0, 91], 0)], 2, [true, false]),
  ([(.putfield 29, [9, 1, 2, 91], 0), (.aload_n 0, [], 0), (.new 33, [0], 0), (.dup, [], 0), (.invokespecial 35, [0, 1, 0, 0, 92], 0)], 3, [true, false]),
  ([(.putfield 36, [9, 2, 2, 92], 0), (.aload_n 0, [], 0), (.new 40, [7], 0), (.dup, [], 0), (.aload_n 0, [], 0), (.getfield 22, [9, 0, 2, 90], 0), (.aload_n 0, [], 0), (.getfield 36, [9, 2, 2, 92], 0), (.invokespecial 42, [72, 3, 7, 0, 93], 0)], 4, [true, false]),
  ([(.putfield 45, [9, 3, 2, 93], 0), (.aload_n 0, [], 0), (.new 49, [8], 0), (.dup, [], 0), (.invokespecial 51, [89, 1, 8, 0, 94], 0)], 5, [true, false]),
  ([(.putfield 52, [9, 4, 2, 94], 0), (.aload_n 0, [], 0), (.new 56, [6], 0), (.dup, [], 0), (.aload_n 0, [], 0), (.getfield 52, [9, 4, 2, 94], 0), (.aload_n 0, [], 0), (.getfield 45, [9, 3, 2, 93], 0), (.invokespecial 58, [59, 3, 6, 0, 95], 0)], 6, [true, false]),
  ([(.putfield 61, [9, 5, 2, 95], 0), (.aload_n 0, [], 0), (.new 65, [2], 0), (.dup, [], 0), (.aload_n 0, [], 0), (.getfield 22, [9, 0, 2, 90], 0), (.aload_n 0, [], 0), (.getfield 29, [9, 1, 2, 91], 0), (.invokespecial 67, [12, 3, 2, 0, 96], 0)], 7, [true, false]),
  ([(.putfield 70, [9, 6, 2, 96], 0), (.aload_n 0, [], 0), (.new 74, [5], 0), (.dup, [], 0), (.aload_n 0, [], 0), (.getfield 29, [9, 1, 2, 91], 0), (.aload_n 0, [], 0), (.getfield 36, [9, 2, 2, 92], 0), (.aload_n 0, [], 0), (.getfield 45, [9, 3, 2, 93], 0), (.invokespecial 76, [46, 4, 5, 0, 97], 0)], 8, [true, false]),
  ([(.putfield 79, [9, 7, 2, 97], 0), (.aload_n 0, [], 0), (.new 83, [4], 0), (.dup, [], 0), (.invokespecial 85, [41, 1, 4, 0, 98], 0)], 9, [true, false]),
  ([(.putfield 86, [9, 8, 2, 98], 0), (.iconst 0, [], 0), (.istore_n 1, [], 0)], 10, [true, false]),
  ([(.iload_n 1, [], 0), (.bipush 8, [], 8), (.if_icmp .ge 16, [11], 0), (.aload_n 0, [], 0), (.getfield 9, [9, 9, 2, 87], 0), (.iload_n 1, [], 0), (.iconst (-1), [], (-1)), (.iastore, [], 0), (.iinc 1 1, [], 1), (.goto (-16), [10], 0)], 0, [true, true]),
  ([(.aload_n 0, [], 0), (.iconst 0, [], 0), (.putfield 90, [9, 12, 0, 99], 0), (.aload_n 0, [], 0), (.iconst (-1), [], (-1)), (.putfield 94, [9, 13, 0, 100], 0), (.aload_n 0, [], 0), (.iconst 0, [], 0), (.putfield 97, [9, 14, 0, 101], 0), (.return_, [], 0)], 0, [true, false])]
/-- CourtProgress.household(III)I -/
def ai_c105 : List ai_Bk := [([(.iload_n 1, [], 0), (.iconst 1, [], 1), (.bipush 9, [], 9), (.invokestatic 100, [142, 3, 999, 0, 99], 0)], 1, [true, true, true, true]),
  ([(.ifCond .eq 23, [4], 0), (.iload_n 2, [], 0), (.iconst 1, [], 1), (.bipush 99, [], 99), (.invokestatic 100, [142, 3, 999, 0, 99], 0)], 2, [true, true, true, true]),
  ([(.ifCond .eq 13, [4], 0), (.iload_n 3, [], 0), (.iconst 0, [], 0), (.bipush 99, [], 99), (.invokestatic 100, [142, 3, 999, 0, 99], 0)], 3, [true, true, true, true]),
  ([(.ifCond .ne 9, [6], 0)], 4, [true, true, true, true]),
  ([(.aload_n 0, [], 0), (.iconst 2, [], 2), (.invokevirtual 104, [136, 2, 9, 0, 100], 0)], 5, [true, false, false, false]),
  ([(.ireturn, [0], 0)], 0, [false, false, false, false]),
  ([(.aload_n 0, [], 0), (.getfield 22, [9, 0, 2, 90], 0), (.getfield 108, [1, 0, 0, 102], 0), (.bipush 8, [], 8), (.if_icmp .lt 9, [8], 0), (.aload_n 0, [], 0), (.iconst 3, [], 3), (.invokevirtual 104, [136, 2, 9, 0, 100], 0)], 7, [true, true, true, true]),
  ([(.ireturn, [0], 0)], 0, [false, false, false, false]),
  ([(.aload_n 0, [], 0), (.aload_n 0, [], 0), (.getfield 22, [9, 0, 2, 90], 0), (.iload_n 1, [], 0), (.iload_n 2, [], 0), (.iload_n 3, [], 0), (.invokevirtual 111, [8, 4, 1, 0, 101], 0)], 9, [true, true, true, true]),
  ([(.invokevirtual 115, [137, 2, 9, 0, 102], 0)], 10, [false, false, false, false]),
  ([(.ireturn, [0], 0)], 0, [false, false, false, false])]
/-- CourtProgress.bar(IIZ)Z -/
def ai_c106 : List ai_Bk := [([(.aload_n 0, [], 0), (.getfield 22, [9, 0, 2, 90], 0), (.iload_n 1, [], 0), (.invokevirtual 118, [7, 2, 1, 0, 103], 0)], 1, [true, true, true, true]),
  ([(.ifCond .eq 19, [3], 0), (.aload_n 0, [], 0), (.getfield 22, [9, 0, 2, 90], 0), (.iload_n 2, [], 0), (.invokevirtual 118, [7, 2, 1, 0, 103], 0)], 2, [true, true, true, true]),
  ([(.ifCond .eq 8, [3], 0), (.iload_n 1, [], 0), (.iload_n 2, [], 0), (.if_icmp .ne 9, [5], 0)], 3, [true, true, true, true]),
  ([(.aload_n 0, [], 0), (.iconst 1, [], 1), (.invokevirtual 122, [138, 2, 9, 0, 104], 0)], 4, [true, false, false, false]),
  ([(.ireturn, [1], 0)], 0, [false, false, false, false]),
  ([(.aload_n 0, [], 0), (.getfield 22, [9, 0, 2, 90], 0), (.iload_n 1, [], 0), (.iload_n 2, [], 0), (.iload_n 3, [], 0), (.invokevirtual 125, [9, 4, 1, 0, 105], 0)], 6, [true, true, true, true]),
  ([(.aload_n 0, [], 0), (.invokevirtual 129, [139, 1, 9, 0, 106], 0)], 7, [true, false, false, false]),
  ([(.ireturn, [1], 0)], 0, [false, false, false, false])]
/-- CourtProgress.place(III)I -/
def ai_c107 : List ai_Bk := [([(.iload_n 1, [], 0), (.iconst 0, [], 0), (.ldc 133, [], 1000000), (.invokestatic 100, [142, 3, 999, 0, 99], 0)], 1, [true, true, true, true, false]),
  ([(.ifCond .eq 24, [4], 0), (.iload_n 2, [], 0), (.iconst 0, [], 0), (.ldc 133, [], 1000000), (.invokestatic 100, [142, 3, 999, 0, 99], 0)], 2, [true, true, true, true, false]),
  ([(.ifCond .eq 14, [4], 0), (.iload_n 3, [], 0), (.iconst 0, [], 0), (.sipush 999, [], 999), (.invokestatic 100, [142, 3, 999, 0, 99], 0)], 3, [true, true, true, true, false]),
  ([(.ifCond .ne 9, [6], 0)], 4, [true, true, true, true, false]),
  ([(.aload_n 0, [], 0), (.iconst 2, [], 2), (.invokevirtual 104, [136, 2, 9, 0, 100], 0)], 5, [true, false, false, false, false]),
  ([(.ireturn, [0], 0)], 0, [false, false, false, false, false]),
  ([(.aload_n 0, [], 0), (.getfield 29, [9, 1, 2, 91], 0), (.getfield 134, [3, 0, 0, 103], 0), (.bipush 9, [], 9), (.if_icmp .lt 9, [8], 0), (.aload_n 0, [], 0), (.iconst 3, [], 3), (.invokevirtual 104, [136, 2, 9, 0, 100], 0)], 7, [true, true, true, true, false]),
  ([(.ireturn, [0], 0)], 0, [false, false, false, false, false]),
  ([(.aload_n 0, [], 0), (.getfield 29, [9, 1, 2, 91], 0), (.iload_n 1, [], 0), (.iload_n 2, [], 0), (.iload_n 3, [], 0), (.invokevirtual 135, [34, 4, 3, 0, 107], 0)], 9, [true, true, true, true, false]),
  ([(.istore 4, [], 0), (.aload_n 0, [], 0), (.getfield 94, [9, 13, 0, 100], 0), (.iconst (-1), [], (-1)), (.if_icmp .ne 9, [10], 0), (.aload_n 0, [], 0), (.iload 4, [], 0), (.putfield 94, [9, 13, 0, 100], 0)], 10, [true, false, false, false, false]),
  ([(.aload_n 0, [], 0), (.iload 4, [], 0), (.invokevirtual 115, [137, 2, 9, 0, 102], 0)], 11, [true, false, false, false, true]),
  ([(.ireturn, [0], 0)], 0, [false, false, false, false, false])]
/-- CourtProgress.room(IIII)I -/
def ai_c108 : List ai_Bk := [([(.aload_n 0, [], 0), (.getfield 29, [9, 1, 2, 91], 0), (.iload_n 1, [], 0), (.invokevirtual 136, [33, 2, 3, 0, 108], 0)], 1, [true, true, true, true, true]),
  ([(.ifCond .ne 9, [3], 0), (.aload_n 0, [], 0), (.iconst 1, [], 1), (.invokevirtual 104, [136, 2, 9, 0, 100], 0)], 2, [true, true, true, true, true]),
  ([(.ireturn, [0], 0)], 0, [false, false, false, false, false]),
  ([(.iload_n 2, [], 0), (.iconst 1, [], 1), (.bipush 9, [], 9), (.invokestatic 100, [142, 3, 999, 0, 99], 0)], 4, [true, true, true, true, true]),
  ([(.ifCond .eq 23, [7], 0), (.iload_n 3, [], 0), (.iconst 0, [], 0), (.iconst 3, [], 3), (.invokestatic 100, [142, 3, 999, 0, 99], 0)], 5, [true, true, true, true, true]),
  ([(.ifCond .eq 14, [7], 0), (.iload 4, [], 0), (.iconst 0, [], 0), (.bipush 99, [], 99), (.invokestatic 100, [142, 3, 999, 0, 99], 0)], 6, [true, true, true, true, true]),
  ([(.ifCond .ne 9, [9], 0)], 7, [true, true, true, true, true]),
  ([(.aload_n 0, [], 0), (.iconst 2, [], 2), (.invokevirtual 104, [136, 2, 9, 0, 100], 0)], 8, [true, false, false, false, false]),
  ([(.ireturn, [0], 0)], 0, [false, false, false, false, false]),
  ([(.aload_n 0, [], 0), (.getfield 29, [9, 1, 2, 91], 0), (.getfield 137, [3, 6, 2, 104], 0), (.iload_n 1, [], 0), (.iaload, [], 0), (.bipush 10, [], 10), (.if_icmp .lt 9, [11], 0), (.aload_n 0, [], 0), (.iconst 3, [], 3), (.invokevirtual 104, [136, 2, 9, 0, 100], 0)], 10, [true, true, true, true, true]),
  ([(.ireturn, [0], 0)], 0, [false, false, false, false, false]),
  ([(.aload_n 0, [], 0), (.aload_n 0, [], 0), (.getfield 29, [9, 1, 2, 91], 0), (.iload_n 1, [], 0), (.iload_n 2, [], 0), (.iload_n 3, [], 0), (.iload 4, [], 0), (.invokevirtual 140, [35, 5, 3, 0, 109], 0)], 12, [true, true, true, true, true]),
  ([(.invokevirtual 115, [137, 2, 9, 0, 102], 0)], 13, [false, false, false, false, false]),
  ([(.ireturn, [0], 0)], 0, [false, false, false, false, false])]
/-- CourtProgress.way(III)Z -/
def ai_c109 : List ai_Bk := [([(.aload_n 0, [], 0), (.getfield 29, [9, 1, 2, 91], 0), (.iload_n 1, [], 0), (.invokevirtual 136, [33, 2, 3, 0, 108], 0)], 1, [true, true, true, true]),
  ([(.ifCond .eq 19, [3], 0), (.aload_n 0, [], 0), (.getfield 29, [9, 1, 2, 91], 0), (.iload_n 2, [], 0), (.invokevirtual 136, [33, 2, 3, 0, 108], 0)], 2, [true, true, true, true]),
  ([(.ifCond .eq 8, [3], 0), (.iload_n 1, [], 0), (.iload_n 2, [], 0), (.if_icmp .ne 9, [5], 0)], 3, [true, true, true, true]),
  ([(.aload_n 0, [], 0), (.iconst 1, [], 1), (.invokevirtual 122, [138, 2, 9, 0, 104], 0)], 4, [true, false, false, false]),
  ([(.ireturn, [1], 0)], 0, [false, false, false, false]),
  ([(.iload_n 3, [], 0), (.iconst 0, [], 0), (.bipush 48, [], 48), (.invokestatic 100, [142, 3, 999, 0, 99], 0)], 6, [true, true, true, true]),
  ([(.ifCond .ne 9, [8], 0), (.aload_n 0, [], 0), (.iconst 2, [], 2), (.invokevirtual 122, [138, 2, 9, 0, 104], 0)], 7, [true, true, true, true]),
  ([(.ireturn, [1], 0)], 0, [false, false, false, false]),
  ([(.aload_n 0, [], 0), (.getfield 29, [9, 1, 2, 91], 0), (.iload_n 1, [], 0), (.iload_n 2, [], 0), (.iload_n 3, [], 0), (.invokevirtual 144, [36, 4, 3, 0, 110], 0)], 9, [true, true, true, true]),
  ([(.aload_n 0, [], 0), (.invokevirtual 129, [139, 1, 9, 0, 106], 0)], 10, [true, false, false, false]),
  ([(.ireturn, [1], 0)], 0, [false, false, false, false])]
/-- CourtProgress.mud(III)Z -/
def ai_c110 : List ai_Bk := [([(.iload_n 1, [], 0), (.invokestatic 148, [141, 1, 999, 0, 111], 0)], 1, [true, true, true, true]),
  ([(.ifCond .eq 24, [4], 0), (.iload_n 2, [], 0), (.invokestatic 148, [141, 1, 999, 0, 111], 0)], 2, [true, true, true, true]),
  ([(.ifCond .eq 17, [4], 0), (.iload_n 1, [], 0), (.iload_n 2, [], 0), (.if_icmp .gt 12, [4], 0), (.iload_n 3, [], 0), (.iconst 0, [], 0), (.iconst 4, [], 4), (.invokestatic 100, [142, 3, 999, 0, 99], 0)], 3, [true, true, true, true]),
  ([(.ifCond .ne 9, [6], 0)], 4, [true, true, true, true]),
  ([(.aload_n 0, [], 0), (.iconst 2, [], 2), (.invokevirtual 122, [138, 2, 9, 0, 104], 0)], 5, [true, false, false, false]),
  ([(.ireturn, [1], 0)], 0, [false, false, false, false]),
  ([(.aload_n 0, [], 0), (.getfield 36, [9, 2, 2, 92], 0), (.iload_n 1, [], 0), (.iload_n 2, [], 0), (.iload_n 3, [], 0), (.invokevirtual 151, [1, 4, 0, 0, 112], 0)], 7, [true, true, true, true]),
  ([(.aload_n 0, [], 0), (.invokevirtual 129, [139, 1, 9, 0, 106], 0)], 8, [true, false, false, false]),
  ([(.ireturn, [1], 0)], 0, [false, false, false, false])]
/-- CourtProgress.feast(II)Z -/
def ai_c111 : List ai_Bk := [([(.iload_n 2, [], 0), (.iconst (-1), [], (-1)), (.if_icmp .eq 20, [3], 0), (.aload_n 0, [], 0), (.getfield 29, [9, 1, 2, 91], 0), (.iload_n 2, [], 0), (.invokevirtual 136, [33, 2, 3, 0, 108], 0)], 1, [true, true, true]),
  ([(.ifCond .ne 9, [3], 0), (.aload_n 0, [], 0), (.iconst 1, [], 1), (.invokevirtual 122, [138, 2, 9, 0, 104], 0)], 2, [true, true, true]),
  ([(.ireturn, [1], 0)], 0, [false, false, false]),
  ([(.iload_n 1, [], 0), (.invokestatic 148, [141, 1, 999, 0, 111], 0)], 4, [true, true, true]),
  ([(.ifCond .ne 9, [6], 0), (.aload_n 0, [], 0), (.iconst 2, [], 2), (.invokevirtual 122, [138, 2, 9, 0, 104], 0)], 5, [true, true, true]),
  ([(.ireturn, [1], 0)], 0, [false, false, false]),
  ([(.iload_n 2, [], 0), (.iconst (-1), [], (-1)), (.if_icmp .eq 20, [9], 0), (.aload_n 0, [], 0), (.getfield 36, [9, 2, 2, 92], 0), (.iload_n 1, [], 0), (.invokevirtual 154, [4, 2, 0, 0, 113], 0)], 7, [true, true, true]),
  ([(.ifCond .ne 9, [9], 0), (.aload_n 0, [], 0), (.iconst 3, [], 3), (.invokevirtual 122, [138, 2, 9, 0, 104], 0)], 8, [true, true, true]),
  ([(.ireturn, [1], 0)], 0, [false, false, false]),
  ([(.aload_n 0, [], 0), (.getfield 36, [9, 2, 2, 92], 0), (.iload_n 1, [], 0), (.iload_n 2, [], 0), (.invokevirtual 157, [5, 3, 0, 0, 114], 0)], 10, [true, true, true]),
  ([(.aload_n 0, [], 0), (.invokevirtual 129, [139, 1, 9, 0, 106], 0)], 11, [true, false, false]),
  ([(.ireturn, [1], 0)], 0, [false, false, false])]
/-- CourtProgress.bring(III)Z -/
def ai_c112 : List ai_Bk := [([(.aload_n 0, [], 0), (.getfield 29, [9, 1, 2, 91], 0), (.iload_n 1, [], 0), (.invokevirtual 136, [33, 2, 3, 0, 108], 0)], 1, [true, true, true, true, false, false, false, false]),
  ([(.ifCond .ne 9, [3], 0), (.aload_n 0, [], 0), (.iconst 1, [], 1), (.invokevirtual 122, [138, 2, 9, 0, 104], 0)], 2, [true, true, true, true, false, false, false, false]),
  ([(.ireturn, [1], 0)], 0, [false, false, false, false, false, false, false, false]),
  ([(.aload_n 0, [], 0), (.getfield 29, [9, 1, 2, 91], 0), (.getfield 161, [3, 1, 2, 105], 0), (.iload_n 1, [], 0), (.iaload, [], 0), (.i2l, [], 0), (.iload_n 2, [], 0), (.i2l, [], 0), (.ladd, [], 0), (.lstore 4, [], 0), (.aload_n 0, [], 0), (.getfield 29, [9, 1, 2, 91], 0), (.getfield 164, [3, 2, 2, 106], 0), (.iload_n 1, [], 0), (.iaload, [], 0), (.i2l, [], 0), (.iload_n 3, [], 0), (.i2l, [], 0), (.ladd, [], 0), (.lstore 6, [], 0), (.lload 4, [], 0), (.lconst 0, [], 0), (.lcmp, [], 0), (.ifCond .lt 28, [4], 0), (.lload 4, [], 0), (.ldc2_w 167, [], 1000000), (.lcmp, [], 0), (.ifCond .gt 19, [4], 0), (.lload 6, [], 0), (.lconst 0, [], 0), (.lcmp, [], 0), (.ifCond .lt 12, [4], 0), (.lload 6, [], 0), (.ldc2_w 167, [], 1000000), (.lcmp, [], 0), (.ifCond .le 9, [6], 0)], 4, [true, true, true, true, false, false, false, false]),
  ([(.aload_n 0, [], 0), (.iconst 2, [], 2), (.invokevirtual 122, [138, 2, 9, 0, 104], 0)], 5, [true, false, false, false, false, false, false, false]),
  ([(.ireturn, [1], 0)], 0, [false, false, false, false, false, false, false, false]),
  ([(.aload_n 0, [], 0), (.getfield 29, [9, 1, 2, 91], 0), (.getfield 161, [3, 1, 2, 105], 0), (.iload_n 1, [], 0), (.lload 4, [], 0), (.l2i, [], 0), (.iastore, [], 0), (.aload_n 0, [], 0), (.getfield 29, [9, 1, 2, 91], 0), (.getfield 164, [3, 2, 2, 106], 0), (.iload_n 1, [], 0), (.lload 6, [], 0), (.l2i, [], 0), (.iastore, [], 0), (.aload_n 0, [], 0), (.invokevirtual 129, [139, 1, 9, 0, 106], 0)], 7, [true, true, false, false, true, false, true, false]),
  ([(.ireturn, [1], 0)], 0, [false, false, false, false, false, false, false, false])]
/-- CourtProgress.feed(IIIII)I -/
def ai_c113 : List ai_Bk := [([(.aload_n 0, [], 0), (.getfield 52, [9, 4, 2, 94], 0), (.invokevirtual 169, [90, 1, 8, 0, 115], 0)], 1, [true, true, true, true, true, true]),
  ([(.ifCond .ne 5, [2], 0), (.iconst (-1), [], (-1)), (.ireturn, [0], 0)], 0, [true, true, true, true, true, true]),
  ([(.aload_n 0, [], 0), (.getfield 52, [9, 4, 2, 94], 0), (.iload_n 1, [], 0), (.invokevirtual 172, [91, 2, 8, 0, 116], 0)], 3, [true, true, true, true, true, true]),
  ([(.aload_n 0, [], 0), (.getfield 52, [9, 4, 2, 94], 0), (.iload_n 2, [], 0), (.invokevirtual 172, [91, 2, 8, 0, 116], 0)], 4, [true, false, true, true, true, true]),
  ([(.aload_n 0, [], 0), (.getfield 52, [9, 4, 2, 94], 0), (.iload_n 3, [], 0), (.invokevirtual 172, [91, 2, 8, 0, 116], 0)], 5, [true, false, false, true, true, true]),
  ([(.aload_n 0, [], 0), (.getfield 52, [9, 4, 2, 94], 0), (.iload 4, [], 0), (.invokevirtual 172, [91, 2, 8, 0, 116], 0)], 6, [true, false, false, false, true, true]),
  ([(.aload_n 0, [], 0), (.getfield 52, [9, 4, 2, 94], 0), (.iload 5, [], 0), (.invokevirtual 172, [91, 2, 8, 0, 116], 0)], 7, [true, false, false, false, false, true]),
  ([(.aload_n 0, [], 0), (.getfield 52, [9, 4, 2, 94], 0), (.getfield 176, [8, 0, 0, 107], 0), (.ireturn, [0], 0)], 0, [true, false, false, false, false, false])]
/-- CourtProgress.ordinance(II)I -/
def ai_c114 : List ai_Bk := [([(.iload_n 1, [], 0), (.invokestatic 148, [141, 1, 999, 0, 111], 0)], 1, [true, true, true]),
  ([(.ifCond .eq 18, [3], 0), (.iload_n 2, [], 0), (.iconst 0, [], 0), (.aload_n 0, [], 0), (.getfield 52, [9, 4, 2, 94], 0), (.getfield 176, [8, 0, 0, 107], 0), (.invokestatic 100, [142, 3, 999, 0, 99], 0)], 2, [true, true, true]),
  ([(.ifCond .ne 9, [5], 0)], 3, [true, true, true]),
  ([(.aload_n 0, [], 0), (.iconst 2, [], 2), (.invokevirtual 104, [136, 2, 9, 0, 100], 0)], 4, [true, false, false]),
  ([(.ireturn, [0], 0)], 0, [false, false, false]),
  ([(.aload_n 0, [], 0), (.getfield 52, [9, 4, 2, 94], 0), (.iload_n 2, [], 0), (.invokevirtual 177, [94, 2, 8, 0, 117], 0)], 6, [true, true, true]),
  ([(.aload_n 0, [], 0), (.getfield 52, [9, 4, 2, 94], 0), (.iconst 0, [], 0), (.putfield 176, [8, 0, 0, 107], 0), (.aload_n 0, [], 0), (.getfield 61, [9, 5, 2, 95], 0), (.invokevirtual 180, [60, 1, 6, 0, 118], 0)], 7, [true, true, false]),
  ([(.ifCond .ne 9, [9], 0), (.aload_n 0, [], 0), (.iconst 4, [], 4), (.invokevirtual 104, [136, 2, 9, 0, 100], 0)], 8, [true, true, false]),
  ([(.ireturn, [0], 0)], 0, [false, false, false]),
  ([(.aload_n 0, [], 0), (.getfield 45, [9, 3, 2, 93], 0), (.getfield 183, [7, 2, 0, 108], 0), (.bipush 10, [], 10), (.if_icmp .lt 9, [11], 0), (.aload_n 0, [], 0), (.iconst 3, [], 3), (.invokevirtual 104, [136, 2, 9, 0, 100], 0)], 10, [true, true, false]),
  ([(.ireturn, [0], 0)], 0, [false, false, false]),
  ([(.aload_n 0, [], 0), (.aload_n 0, [], 0), (.getfield 45, [9, 3, 2, 93], 0), (.iload_n 1, [], 0), (.invokevirtual 184, [78, 2, 7, 0, 119], 0)], 12, [true, true, false]),
  ([(.invokevirtual 115, [137, 2, 9, 0, 102], 0)], 13, [false, false, false]),
  ([(.ireturn, [0], 0)], 0, [false, false, false])]
/-- CourtProgress.fault()I -/
def ai_c115 : List ai_Bk := [([(.aload_n 0, [], 0), (.getfield 61, [9, 5, 2, 95], 0), (.getfield 187, [6, 2, 0, 109], 0), (.ireturn, [0], 0)], 0, [true])]
/-- CourtProgress.where()I -/
def ai_c116 : List ai_Bk := [([(.aload_n 0, [], 0), (.getfield 97, [9, 14, 0, 101], 0), (.iconst 4, [], 4), (.if_icmp .ne 13, [2], 0), (.aload_n 0, [], 0), (.getfield 61, [9, 5, 2, 95], 0), (.invokevirtual 190, [61, 1, 6, 0, 120], 0)], 1, [true]),
  ([(.goto 4, [3], 0)], 0, [false]),
  ([(.iconst (-1), [], (-1))], 3, [false]),
  ([(.ireturn, [0], 0)], 0, [false])]
/-- CourtProgress.force(I)I -/
def ai_c117 : List ai_Bk := [([(.iload_n 1, [], 0), (.invokestatic 148, [141, 1, 999, 0, 111], 0)], 1, [true, true]),
  ([(.ifCond .eq 14, [3], 0), (.aload_n 0, [], 0), (.getfield 45, [9, 3, 2, 93], 0), (.iload_n 1, [], 0), (.invokevirtual 194, [79, 2, 7, 0, 121], 0)], 2, [true, true]),
  ([(.goto 4, [4], 0)], 0, [false, false]),
  ([(.iconst (-1), [], (-1))], 4, [false, false]),
  ([(.ireturn, [0], 0)], 0, [false, false])]
/-- CourtProgress.eats(IIZ)I -/
def ai_c118 : List ai_Bk := [([(.aload_n 0, [], 0), (.getfield 22, [9, 0, 2, 90], 0), (.iload_n 1, [], 0), (.invokevirtual 118, [7, 2, 1, 0, 103], 0)], 1, [true, true, true, true]),
  ([(.ifCond .eq 10, [3], 0), (.iload_n 2, [], 0), (.invokestatic 148, [141, 1, 999, 0, 111], 0)], 2, [true, true, true, true]),
  ([(.ifCond .ne 5, [4], 0)], 3, [true, true, true, true]),
  ([(.iconst (-1), [], (-1)), (.ireturn, [0], 0)], 0, [false, false, false, false]),
  ([(.aload_n 0, [], 0), (.getfield 45, [9, 3, 2, 93], 0), (.iload_n 1, [], 0), (.iload_n 2, [], 0), (.iload_n 3, [], 0), (.invokevirtual 197, [80, 4, 7, 0, 122], 0)], 5, [true, true, true, true]),
  ([(.ireturn, [0], 0)], 0, [false, false, false, false])]
/-- CourtProgress.need(I)I -/
def ai_c119 : List ai_Bk := [([(.iload_n 1, [], 0), (.invokestatic 148, [141, 1, 999, 0, 111], 0)], 1, [true, true]),
  ([(.ifCond .eq 14, [3], 0), (.aload_n 0, [], 0), (.getfield 45, [9, 3, 2, 93], 0), (.iload_n 1, [], 0), (.invokevirtual 201, [81, 2, 7, 0, 123], 0)], 2, [true, true]),
  ([(.goto 4, [4], 0)], 0, [false, false]),
  ([(.iconst (-1), [], (-1))], 4, [false, false]),
  ([(.ireturn, [0], 0)], 0, [false, false])]
/-- CourtProgress.lodge(I)I -/
def ai_c120 : List ai_Bk := [([(.aload_n 0, [], 0), (.getfield 29, [9, 1, 2, 91], 0), (.iload_n 1, [], 0), (.invokevirtual 136, [33, 2, 3, 0, 108], 0)], 1, [true, true, false, false]),
  ([(.ifCond .ne 9, [3], 0), (.aload_n 0, [], 0), (.iconst 1, [], 1), (.invokevirtual 104, [136, 2, 9, 0, 100], 0)], 2, [true, true, false, false]),
  ([(.ireturn, [0], 0)], 0, [false, false, false, false]),
  ([(.aload_n 0, [], 0), (.getfield 70, [9, 6, 2, 96], 0), (.iload_n 1, [], 0), (.invokevirtual 204, [15, 2, 2, 0, 124], 0)], 4, [true, true, false, false]),
  ([(.istore_n 2, [], 0), (.iload_n 2, [], 0), (.iconst (-1), [], (-1)), (.if_icmp .ne 10, [6], 0), (.aload_n 0, [], 0), (.bipush 6, [], 6), (.invokevirtual 104, [136, 2, 9, 0, 100], 0)], 5, [true, false, false, false]),
  ([(.ireturn, [0], 0)], 0, [false, false, false, false]),
  ([(.aload_n 0, [], 0), (.getfield 70, [9, 6, 2, 96], 0), (.iload_n 2, [], 0), (.invokevirtual 207, [29, 2, 2, 0, 125], 0)], 7, [true, false, true, false]),
  ([(.iconst 0, [], 0), (.istore_n 3, [], 0)], 8, [true, false, true, false]),
  ([(.iload_n 3, [], 0), (.bipush 8, [], 8), (.if_icmp .ge 23, [10], 0), (.aload_n 0, [], 0), (.getfield 9, [9, 9, 2, 87], 0), (.iload_n 3, [], 0), (.aload_n 0, [], 0), (.getfield 70, [9, 6, 2, 96], 0), (.iload_n 3, [], 0), (.invokevirtual 210, [13, 2, 2, 0, 126], 0)], 9, [true, false, true, true]),
  ([(.iastore, [], 0), (.iinc 3 1, [], 1), (.goto (-23), [8], 0)], 0, [true, false, true, true]),
  ([(.aload_n 0, [], 0), (.iload_n 2, [], 0), (.invokevirtual 115, [137, 2, 9, 0, 102], 0)], 11, [true, false, true, false]),
  ([(.ireturn, [0], 0)], 0, [false, false, false, false])]
/-- CourtProgress.lodged(I)I -/
def ai_c121 : List ai_Bk := [([(.iload_n 1, [], 0), (.iconst 0, [], 0), (.bipush 7, [], 7), (.invokestatic 100, [142, 3, 999, 0, 99], 0)], 1, [true, true]),
  ([(.ifCond .eq 12, [2], 0), (.aload_n 0, [], 0), (.getfield 9, [9, 9, 2, 87], 0), (.iload_n 1, [], 0), (.iaload, [], 0), (.goto 4, [3], 0)], 0, [true, true]),
  ([(.iconst (-1), [], (-1))], 3, [false, false]),
  ([(.ireturn, [0], 0)], 0, [false, false])]
/-- CourtProgress.why(I)I -/
def ai_c122 : List ai_Bk := [([(.aload_n 0, [], 0), (.getfield 29, [9, 1, 2, 91], 0), (.iload_n 1, [], 0), (.invokevirtual 136, [33, 2, 3, 0, 108], 0)], 1, [true, true]),
  ([(.ifCond .eq 18, [4], 0), (.aload_n 0, [], 0), (.aload_n 0, [], 0), (.getfield 70, [9, 6, 2, 96], 0), (.iload_n 1, [], 0), (.invokevirtual 213, [14, 2, 2, 0, 127], 0)], 2, [true, true]),
  ([(.invokevirtual 115, [137, 2, 9, 0, 102], 0)], 3, [false, false]),
  ([(.goto 8, [5], 0)], 0, [false, false]),
  ([(.aload_n 0, [], 0), (.iconst 1, [], 1), (.invokevirtual 104, [136, 2, 9, 0, 100], 0)], 5, [true, false]),
  ([(.ireturn, [0], 0)], 0, [false, false])]
/-- CourtProgress.route(I)I -/
def ai_c123 : List ai_Bk := [([(.iload_n 1, [], 0), (.invokestatic 148, [141, 1, 999, 0, 111], 0)], 1, [true, true, false]),
  ([(.ifCond .eq 22, [2], 0), (.iload_n 1, [], 0), (.aload_n 0, [], 0), (.getfield 90, [9, 12, 0, 99], 0), (.if_icmp .lt 14, [2], 0), (.iload_n 1, [], 0), (.aload_n 0, [], 0), (.getfield 90, [9, 12, 0, 99], 0), (.bipush 20, [], 20), (.iadd, [], 0), (.if_icmp .le 9, [4], 0)], 2, [true, true, false]),
  ([(.aload_n 0, [], 0), (.iconst 2, [], 2), (.invokevirtual 104, [136, 2, 9, 0, 100], 0)], 3, [true, false, false]),
  ([(.ireturn, [0], 0)], 0, [false, false, false]),
  ([(.aload_n 0, [], 0), (.getfield 29, [9, 1, 2, 91], 0), (.aload_n 0, [], 0), (.getfield 94, [9, 13, 0, 100], 0), (.invokevirtual 136, [33, 2, 3, 0, 108], 0)], 5, [true, true, false]),
  ([(.ifCond .ne 10, [7], 0), (.aload_n 0, [], 0), (.bipush 6, [], 6), (.invokevirtual 104, [136, 2, 9, 0, 100], 0)], 6, [true, true, false]),
  ([(.ireturn, [0], 0)], 0, [false, false, false]),
  ([(.aload_n 0, [], 0), (.getfield 79, [9, 7, 2, 97], 0), (.aload_n 0, [], 0), (.getfield 90, [9, 12, 0, 99], 0), (.iload_n 1, [], 0), (.aload_n 0, [], 0), (.getfield 94, [9, 13, 0, 100], 0), (.invokevirtual 216, [48, 4, 5, 0, 128], 0)], 8, [true, true, false]),
  ([(.istore_n 2, [], 0), (.iload_n 2, [], 0), (.iconst (-1), [], (-1)), (.if_icmp .ne 10, [10], 0), (.aload_n 0, [], 0), (.bipush 6, [], 6), (.invokevirtual 104, [136, 2, 9, 0, 100], 0)], 9, [true, false, false]),
  ([(.ireturn, [0], 0)], 0, [false, false, false]),
  ([(.aload_n 0, [], 0), (.getfield 79, [9, 7, 2, 97], 0), (.iload_n 2, [], 0), (.invokevirtual 219, [57, 2, 5, 0, 129], 0)], 11, [true, false, true]),
  ([(.aload_n 0, [], 0), (.iload_n 2, [], 0), (.invokevirtual 115, [137, 2, 9, 0, 102], 0)], 12, [true, false, true]),
  ([(.ireturn, [0], 0)], 0, [false, false, false])]
/-- CourtProgress.at(I)I -/
def ai_c124 : List ai_Bk := [([(.aload_n 0, [], 0), (.getfield 79, [9, 7, 2, 97], 0), (.iload_n 1, [], 0), (.invokevirtual 222, [47, 2, 5, 0, 130], 0)], 1, [true, true]),
  ([(.ireturn, [0], 0)], 0, [false, false])]
/-- CourtProgress.lasts()I -/
def ai_c125 : List ai_Bk := [([(.aload_n 0, [], 0), (.getfield 29, [9, 1, 2, 91], 0), (.aload_n 0, [], 0), (.getfield 94, [9, 13, 0, 100], 0), (.invokevirtual 136, [33, 2, 3, 0, 108], 0)], 1, [true, false, false, false]),
  ([(.ifCond .ne 10, [3], 0), (.aload_n 0, [], 0), (.bipush 6, [], 6), (.invokevirtual 104, [136, 2, 9, 0, 100], 0)], 2, [true, false, false, false]),
  ([(.ireturn, [0], 0)], 0, [false, false, false, false]),
  ([(.aload_n 0, [], 0), (.getfield 29, [9, 1, 2, 91], 0), (.aload_n 0, [], 0), (.getfield 94, [9, 13, 0, 100], 0), (.invokevirtual 225, [38, 2, 3, 0, 131], 0)], 4, [true, false, false, false]),
  ([(.istore_n 1, [], 0), (.iconst 0, [], 0), (.istore_n 2, [], 0), (.aload_n 0, [], 0), (.getfield 90, [9, 12, 0, 99], 0), (.istore_n 3, [], 0)], 5, [true, false, false, false]),
  ([(.iload_n 3, [], 0), (.sipush 200, [], 200), (.if_icmp .ge 30, [8], 0), (.iload_n 1, [], 0), (.aload_n 0, [], 0), (.getfield 45, [9, 3, 2, 93], 0), (.iload_n 3, [], 0), (.invokevirtual 201, [81, 2, 7, 0, 123], 0)], 6, [true, true, true, true]),
  ([(.isub, [], 0), (.istore_n 1, [], 0), (.iload_n 1, [], 0), (.ifCond .ge 6, [7], 0), (.goto 12, [8], 0)], 0, [true, false, true, true]),
  ([(.iinc 2 1, [], 1), (.iinc 3 1, [], 1), (.goto (-31), [5], 0)], 0, [true, true, true, true]),
  ([(.aload_n 0, [], 0), (.iload_n 2, [], 0), (.invokevirtual 115, [137, 2, 9, 0, 102], 0)], 9, [true, false, true, false]),
  ([(.ireturn, [0], 0)], 0, [false, false, false, false])]
/-- CourtProgress.step(I)I -/
def ai_c126 : List ai_Bk := [([(.aload_n 0, [], 0), (.getfield 29, [9, 1, 2, 91], 0), (.iload_n 1, [], 0), (.invokevirtual 136, [33, 2, 3, 0, 108], 0)], 1, [true, true, false]),
  ([(.ifCond .eq 17, [3], 0), (.aload_n 0, [], 0), (.getfield 29, [9, 1, 2, 91], 0), (.aload_n 0, [], 0), (.getfield 94, [9, 13, 0, 100], 0), (.invokevirtual 136, [33, 2, 3, 0, 108], 0)], 2, [true, true, false]),
  ([(.ifCond .ne 9, [5], 0)], 3, [true, true, false]),
  ([(.aload_n 0, [], 0), (.iconst 1, [], 1), (.invokevirtual 104, [136, 2, 9, 0, 100], 0)], 4, [true, false, false]),
  ([(.ireturn, [0], 0)], 0, [false, false, false]),
  ([(.iload_n 1, [], 0), (.aload_n 0, [], 0), (.getfield 94, [9, 13, 0, 100], 0), (.if_icmp .eq 35, [9], 0), (.aload_n 0, [], 0), (.getfield 29, [9, 1, 2, 91], 0), (.aload_n 0, [], 0), (.getfield 94, [9, 13, 0, 100], 0), (.iload_n 1, [], 0), (.aload_n 0, [], 0), (.getfield 36, [9, 2, 2, 92], 0), (.aload_n 0, [], 0), (.getfield 90, [9, 12, 0, 99], 0), (.invokevirtual 228, [2, 2, 0, 0, 132], 0)], 6, [true, true, false]),
  ([(.invokevirtual 231, [37, 4, 3, 0, 133], 0)], 7, [true, true, false]),
  ([(.ifCond .ne 9, [9], 0), (.aload_n 0, [], 0), (.iconst 5, [], 5), (.invokevirtual 104, [136, 2, 9, 0, 100], 0)], 8, [true, true, false]),
  ([(.ireturn, [0], 0)], 0, [false, false, false]),
  ([(.aload_n 0, [], 0), (.getfield 90, [9, 12, 0, 99], 0), (.sipush 199, [], 199), (.if_icmp .lt 9, [11], 0), (.aload_n 0, [], 0), (.iconst 2, [], 2), (.invokevirtual 104, [136, 2, 9, 0, 100], 0)], 10, [true, true, false]),
  ([(.ireturn, [0], 0)], 0, [false, false, false]),
  ([(.aload_n 0, [], 0), (.getfield 29, [9, 1, 2, 91], 0), (.aload_n 0, [], 0), (.getfield 94, [9, 13, 0, 100], 0), (.aload_n 0, [], 0), (.getfield 45, [9, 3, 2, 93], 0), (.aload_n 0, [], 0), (.getfield 90, [9, 12, 0, 99], 0), (.invokevirtual 201, [81, 2, 7, 0, 123], 0)], 12, [true, true, false]),
  ([(.invokevirtual 234, [39, 3, 3, 0, 134], 0)], 13, [true, true, false]),
  ([(.istore_n 2, [], 0), (.aload_n 0, [], 0), (.getfield 13, [9, 10, 2, 88], 0), (.aload_n 0, [], 0), (.getfield 90, [9, 12, 0, 99], 0), (.aload_n 0, [], 0), (.getfield 94, [9, 13, 0, 100], 0), (.iastore, [], 0), (.aload_n 0, [], 0), (.getfield 16, [9, 11, 2, 89], 0), (.aload_n 0, [], 0), (.getfield 90, [9, 12, 0, 99], 0), (.iload_n 2, [], 0), (.iastore, [], 0), (.aload_n 0, [], 0), (.iload_n 1, [], 0), (.putfield 94, [9, 13, 0, 100], 0), (.aload_n 0, [], 0), (.dup, [], 0), (.getfield 90, [9, 12, 0, 99], 0), (.iconst 1, [], 1), (.iadd, [], 0), (.putfield 90, [9, 12, 0, 99], 0), (.aload_n 0, [], 0), (.iload_n 2, [], 0), (.invokevirtual 115, [137, 2, 9, 0, 102], 0)], 14, [true, true, false]),
  ([(.ireturn, [0], 0)], 0, [false, false, false])]
/-- CourtProgress.about(II)I -/
def ai_c127 : List ai_Bk := [([(.aload_n 0, [], 0), (.getfield 29, [9, 1, 2, 91], 0), (.iload_n 1, [], 0), (.invokevirtual 136, [33, 2, 3, 0, 108], 0)], 1, [true, true, true]),
  ([(.ifCond .eq 15, [3], 0), (.aload_n 0, [], 0), (.getfield 29, [9, 1, 2, 91], 0), (.iload_n 1, [], 0), (.iload_n 2, [], 0), (.invokevirtual 238, [40, 3, 3, 0, 135], 0)], 2, [true, true, true]),
  ([(.goto 4, [4], 0)], 0, [false, false, false]),
  ([(.iconst (-1), [], (-1))], 4, [false, false, false]),
  ([(.ireturn, [0], 0)], 0, [false, false, false])]
/-- CourtProgress.was(I)I -/
def ai_c128 : List ai_Bk := [([(.aload_n 0, [], 0), (.iload_n 1, [], 0), (.invokevirtual 241, [140, 2, 9, 0, 136], 0)], 1, [true, true]),
  ([(.ifCond .eq 12, [2], 0), (.aload_n 0, [], 0), (.getfield 13, [9, 10, 2, 88], 0), (.iload_n 1, [], 0), (.iaload, [], 0), (.goto 4, [3], 0)], 0, [true, true]),
  ([(.iconst (-1), [], (-1))], 3, [false, false]),
  ([(.ireturn, [0], 0)], 0, [false, false])]
/-- CourtProgress.lacked(I)I -/
def ai_c129 : List ai_Bk := [([(.aload_n 0, [], 0), (.iload_n 1, [], 0), (.invokevirtual 241, [140, 2, 9, 0, 136], 0)], 1, [true, true]),
  ([(.ifCond .eq 12, [2], 0), (.aload_n 0, [], 0), (.getfield 16, [9, 11, 2, 89], 0), (.iload_n 1, [], 0), (.iaload, [], 0), (.goto 4, [3], 0)], 0, [true, true]),
  ([(.iconst (-1), [], (-1))], 3, [false, false]),
  ([(.ireturn, [0], 0)], 0, [false, false])]
/-- CourtProgress.plea(I)I -/
def ai_c130 : List ai_Bk := [([(.iload_n 1, [], 0), (.iconst 0, [], 0), (.bipush 99, [], 99), (.invokestatic 100, [142, 3, 999, 0, 99], 0)], 1, [true, true]),
  ([(.ifCond .ne 9, [3], 0), (.aload_n 0, [], 0), (.iconst 2, [], 2), (.invokevirtual 104, [136, 2, 9, 0, 100], 0)], 2, [true, true]),
  ([(.ireturn, [0], 0)], 0, [false, false]),
  ([(.aload_n 0, [], 0), (.getfield 86, [9, 8, 2, 98], 0), (.getfield 244, [4, 0, 0, 110], 0), (.bipush 60, [], 60), (.if_icmp .lt 9, [5], 0), (.aload_n 0, [], 0), (.iconst 3, [], 3), (.invokevirtual 104, [136, 2, 9, 0, 100], 0)], 4, [true, true]),
  ([(.ireturn, [0], 0)], 0, [false, false]),
  ([(.aload_n 0, [], 0), (.aload_n 0, [], 0), (.getfield 86, [9, 8, 2, 98], 0), (.iload_n 1, [], 0), (.aload_n 0, [], 0), (.getfield 90, [9, 12, 0, 99], 0), (.invokevirtual 245, [42, 3, 4, 0, 137], 0)], 6, [true, true]),
  ([(.invokevirtual 115, [137, 2, 9, 0, 102], 0)], 7, [false, false]),
  ([(.ireturn, [0], 0)], 0, [false, false])]
/-- CourtProgress.hear(I)I -/
def ai_c131 : List ai_Bk := [([(.iload_n 1, [], 0), (.iconst 1, [], 1), (.bipush 9, [], 9), (.invokestatic 100, [142, 3, 999, 0, 99], 0)], 1, [true, true]),
  ([(.ifCond .eq 22, [4], 0), (.aload_n 0, [], 0), (.aload_n 0, [], 0), (.getfield 86, [9, 8, 2, 98], 0), (.iload_n 1, [], 0), (.aload_n 0, [], 0), (.getfield 90, [9, 12, 0, 99], 0), (.invokevirtual 247, [43, 3, 4, 0, 138], 0)], 2, [true, true]),
  ([(.invokevirtual 115, [137, 2, 9, 0, 102], 0)], 3, [false, false]),
  ([(.goto 8, [5], 0)], 0, [false, false]),
  ([(.aload_n 0, [], 0), (.iconst 2, [], 2), (.invokevirtual 104, [136, 2, 9, 0, 100], 0)], 5, [true, false]),
  ([(.ireturn, [0], 0)], 0, [false, false])]
/-- CourtProgress.heard(I)I -/
def ai_c132 : List ai_Bk := [([(.aload_n 0, [], 0), (.getfield 86, [9, 8, 2, 98], 0), (.iload_n 1, [], 0), (.invokevirtual 250, [44, 2, 4, 0, 139], 0)], 1, [true, true]),
  ([(.ireturn, [0], 0)], 0, [false, false])]
/-- CourtProgress.next(I)I -/
def ai_c133 : List ai_Bk := [([(.aload_n 0, [], 0), (.getfield 86, [9, 8, 2, 98], 0), (.iload_n 1, [], 0), (.invokevirtual 253, [45, 2, 4, 0, 140], 0)], 1, [true, true]),
  ([(.ireturn, [0], 0)], 0, [false, false])]
/-- CourtProgress.count(I)I -/
def ai_c134 : List ai_Bk := [([(.iload_n 1, [], 0), (.tableswitch 105 0 7 #[47, 55, 63, 71, 79, 87, 92, 97], [9, 1, 2, 3, 4, 5, 6, 7, 8], 0)], 0, [true, true]),
  ([(.aload_n 0, [], 0), (.getfield 22, [9, 0, 2, 90], 0), (.getfield 108, [1, 0, 0, 102], 0), (.ireturn, [0], 0)], 0, [true, false]),
  ([(.aload_n 0, [], 0), (.getfield 29, [9, 1, 2, 91], 0), (.getfield 134, [3, 0, 0, 103], 0), (.ireturn, [0], 0)], 0, [true, false]),
  ([(.aload_n 0, [], 0), (.getfield 45, [9, 3, 2, 93], 0), (.getfield 183, [7, 2, 0, 108], 0), (.ireturn, [0], 0)], 0, [true, false]),
  ([(.aload_n 0, [], 0), (.getfield 36, [9, 2, 2, 92], 0), (.getfield 256, [0, 2, 0, 111], 0), (.ireturn, [0], 0)], 0, [true, false]),
  ([(.aload_n 0, [], 0), (.getfield 86, [9, 8, 2, 98], 0), (.getfield 259, [4, 1, 0, 112], 0), (.ireturn, [0], 0)], 0, [true, false]),
  ([(.aload_n 0, [], 0), (.getfield 90, [9, 12, 0, 99], 0), (.ireturn, [0], 0)], 0, [true, false]),
  ([(.aload_n 0, [], 0), (.getfield 94, [9, 13, 0, 100], 0), (.ireturn, [0], 0)], 0, [true, false]),
  ([(.aload_n 0, [], 0), (.getfield 52, [9, 4, 2, 94], 0), (.getfield 176, [8, 0, 0, 107], 0), (.ireturn, [0], 0)], 0, [true, false]),
  ([(.iconst (-1), [], (-1)), (.ireturn, [0], 0)], 0, [false, false])]
/-- CourtProgress.trouble()I -/
def ai_c135 : List ai_Bk := [([(.aload_n 0, [], 0), (.getfield 97, [9, 14, 0, 101], 0), (.ireturn, [0], 0)], 0, [true])]
/-- CourtProgress.refuse(I)I -/
def ai_c136 : List ai_Bk := [([(.aload_n 0, [], 0), (.iload_n 1, [], 0), (.putfield 97, [9, 14, 0, 101], 0), (.iconst (-1), [], (-1)), (.ireturn, [0], 0)], 0, [true, true])]
/-- CourtProgress.grant(I)I -/
def ai_c137 : List ai_Bk := [([(.aload_n 0, [], 0), (.iconst 0, [], 0), (.putfield 97, [9, 14, 0, 101], 0), (.iload_n 1, [], 0), (.ireturn, [0], 0)], 0, [true, true])]
/-- CourtProgress.deny(I)Z -/
def ai_c138 : List ai_Bk := [([(.aload_n 0, [], 0), (.iload_n 1, [], 0), (.putfield 97, [9, 14, 0, 101], 0), (.iconst 0, [], 0), (.ireturn, [1], 0)], 0, [true, true])]
/-- CourtProgress.allow()Z -/
def ai_c139 : List ai_Bk := [([(.aload_n 0, [], 0), (.iconst 0, [], 0), (.putfield 97, [9, 14, 0, 101], 0), (.iconst 1, [], 1), (.ireturn, [1], 0)], 0, [true])]
/-- CourtProgress.isPast(I)Z -/
def ai_c140 : List ai_Bk := [([(.iload_n 1, [], 0), (.invokestatic 148, [141, 1, 999, 0, 111], 0)], 1, [true, true]),
  ([(.ifCond .eq 15, [2], 0), (.iload_n 1, [], 0), (.aload_n 0, [], 0), (.getfield 90, [9, 12, 0, 99], 0), (.if_icmp .ge 7, [2], 0), (.iconst 1, [], 1), (.goto 4, [3], 0)], 0, [true, true]),
  ([(.iconst 0, [], 0)], 3, [false, false]),
  ([(.ireturn, [1], 0)], 0, [false, false])]
/-- CourtProgress.isDay(I)Z -/
def ai_c141 : List ai_Bk := [([(.iload_n 0, [], 0), (.ifCond .lt 14, [1], 0), (.iload_n 0, [], 0), (.sipush 200, [], 200), (.if_icmp .ge 7, [1], 0), (.iconst 1, [], 1), (.goto 4, [2], 0)], 0, [true]),
  ([(.iconst 0, [], 0)], 2, [false]),
  ([(.ireturn, [1], 0)], 0, [false])]
/-- CourtProgress.isWithin(III)Z -/
def ai_c142 : List ai_Bk := [([(.iload_n 0, [], 0), (.iload_n 1, [], 0), (.if_icmp .lt 12, [1], 0), (.iload_n 0, [], 0), (.iload_n 2, [], 0), (.if_icmp .gt 7, [1], 0), (.iconst 1, [], 1), (.goto 4, [2], 0)], 0, [true, true, true]),
  ([(.iconst 0, [], 0)], 2, [false, false, false]),
  ([(.ireturn, [1], 0)], 0, [false, false, false])]
/-- CourtProgress.lowestIn(I)I -/
def ai_c143 : List ai_Bk := [([(.iload_n 0, [], 0), (.iload_n 0, [], 0), (.ineg, [], 0), (.iand, [], 0), (.iconst 1, [], 1), (.isub, [], 0), (.invokestatic 262, [210, 1, 999, 0, 141], 0)], 1, [true]),
  ([(.ireturn, [0], 0)], 0, [false])]
/-- CourtProgressModel.refused(I)I -/
def ai_c144 : List ai_Bk := [([(.aload_n 0, [], 0), (.iload_n 1, [], 0), (.putfield 7, [11, 1, 0, 113], 0), (.aload_n 0, [], 0), (.iconst (-1), [], (-1)), (.putfield 10, [11, 2, 0, 114], 0), (.iconst (-1), [], (-1)), (.ireturn, [0], 0)], 0, [true, true])]
/-- CourtProgressModel.denied(I)Z -/
def ai_c145 : List ai_Bk := [([(.aload_n 0, [], 0), (.iload_n 1, [], 0), (.putfield 7, [11, 1, 0, 113], 0), (.aload_n 0, [], 0), (.iconst (-1), [], (-1)), (.putfield 10, [11, 2, 0, 114], 0), (.iconst 0, [], 0), (.ireturn, [1], 0)], 0, [true, true])]
/-- CourtProgressModel.done(I)I -/
def ai_c146 : List ai_Bk := [([(.aload_n 0, [], 0), (.iconst 0, [], 0), (.putfield 7, [11, 1, 0, 113], 0), (.aload_n 0, [], 0), (.iconst (-1), [], (-1)), (.putfield 10, [11, 2, 0, 114], 0), (.iload_n 1, [], 0), (.ireturn, [0], 0)], 0, [true, true])]
/-- CourtProgressModel.granted()Z -/
def ai_c147 : List ai_Bk := [([(.aload_n 0, [], 0), (.iconst 0, [], 0), (.putfield 7, [11, 1, 0, 113], 0), (.aload_n 0, [], 0), (.iconst (-1), [], (-1)), (.putfield 10, [11, 2, 0, 114], 0), (.iconst 1, [], 1), (.ireturn, [1], 0)], 0, [true])]
/-- CourtProgressModel.in(III)Z -/
def ai_c148 : List ai_Bk := [([(.iload_n 0, [], 0), (.iload_n 1, [], 0), (.if_icmp .lt 12, [1], 0), (.iload_n 0, [], 0), (.iload_n 2, [], 0), (.if_icmp .gt 7, [1], 0), (.iconst 1, [], 1), (.goto 4, [2], 0)], 0, [true, true, true]),
  ([(.iconst 0, [], 0)], 2, [false, false, false]),
  ([(.ireturn, [1], 0)], 0, [false, false, false])]
/-- CourtProgressModel.<init>()V -/
def ai_c149 : List ai_Bk := [([(.aload_n 0, [], 0), (.invokespecial 13, [998, 1, 999, 0, 0], 0), (.aload_n 0, [], 0), (.iconst (-1), [], (-1)), (.putfield 10, [11, 2, 0, 114], 0), (.aload_n 0, [], 0), (.iconst (-1), [], (-1)), (.putfield 19, [11, 9, 0, 115], 0), (.aload_n 0, [], 0), (.bipush 8, [], 8), (.newarray .int, [1], 0), (.putfield 22, [11, 10, 2, 116], 0), (.aload_n 0, [], 0), (.bipush 8, [], 8), (.newarray .int, [1], 0), (.putfield 26, [11, 11, 2, 117], 0), (.aload_n 0, [], 0), (.bipush 8, [], 8), (.newarray .int, [1], 0), (.putfield 29, [11, 12, 2, 118], 0), (.aload_n 0, [], 0), (.bipush 8, [], 8), (.newarray .int, [1], 0), (.putfield 32, [11, 13, 2, 119], 0), (.aload_n 0, [], 0), (.bipush 9, [], 9), (.newarray .int, [1], 0), (.putfield 35, [11, 14, 2, 120], 0), (.aload_n 0, [], 0), (.bipush 9, [], 9), (.newarray .int, [1], 0), (.putfield 38, [11, 15, 2, 121], 0), (.aload_n 0, [], 0), (.bipush 9, [], 9), (.newarray .int, [1], 0), (.putfield 41, [11, 16, 2, 122], 0), (.aload_n 0, [], 0), (.bipush 9, [], 9), (.newarray .int, [1], 0), (.putfield 44, [11, 17, 2, 123], 0), (.aload_n 0, [], 0), (.bipush 9, [], 9), (.newarray .int, [1], 0), (.putfield 47, [11, 18, 2, 124], 0), (.aload_n 0, [], 0), (.bipush 9, [], 9), (.newarray .int, [1], 0), (.putfield 50, [11, 19, 2, 125], 0), (.aload_n 0, [], 0), (.bipush 90, [], 90), (.newarray .int, [1], 0), (.putfield 53, [11, 20, 2, 126], 0), (.aload_n 0, [], 0), (.bipush 90, [], 90), (.newarray .int, [1], 0), (.putfield 56, [11, 21, 2, 127], 0), (.aload_n 0, [], 0), (.bipush 90, [], 90), (.newarray .int, [1], 0), (.putfield 59, [11, 22, 2, 128], 0), (.aload_n 0, [], 0), (.bipush 81, [], 81), (.newarray .int, [1], 0), (.putfield 62, [11, 23, 2, 129], 0), (.aload_n 0, [], 0), (.sipush 200, [], 200), (.newarray .int, [1], 0), (.putfield 65, [11, 24, 2, 130], 0), (.aload_n 0, [], 0), (.sipush 200, [], 200), (.newarray .int, [1], 0), (.putfield 68, [11, 25, 2, 131], 0), (.aload_n 0, [], 0), (.sipush 200, [], 200), (.newarray .int, [1], 0), (.putfield 71, [11, 26, 2, 132], 0), (.aload_n 0, [], 0), (.sipush 200, [], 200), (.newarray .int, [1], 0), (.putfield 74, [11, 27, 2, 133], 0), (.aload_n 0, [], 0), (.bipush 60, [], 60), (.newarray .int, [1], 0), (.putfield 77, [11, 28, 2, 134], 0), (.aload_n 0, [], 0), (.bipush 60, [], 60), (.newarray .int, [1], 0), (.putfield 80, [11, 29, 2, 135], 0), (.aload_n 0, [], 0), (.bipush 60, [], 60), (.newarray .int, [1], 0), (.putfield 83, [11, 30, 2, 136], 0), (.aload_n 0, [], 0), (.new 86, [10], 0), (.dup, [], 0), (.invokespecial 88, [302, 1, 10, 0, 142], 0)], 1, [true, false]),
  ([(.putfield 89, [11, 31, 2, 137], 0), (.aload_n 0, [], 0), (.sipush 400, [], 400), (.newarray .byte, [2], 0), (.putfield 93, [11, 32, 2, 138], 0), (.aload_n 0, [], 0), (.bipush 10, [], 10), (.newarray .int, [1], 0), (.putfield 97, [11, 42, 2, 139], 0), (.aload_n 0, [], 0), (.bipush 11, [], 11), (.newarray .int, [1], 0), (.putfield 100, [11, 43, 2, 140], 0), (.aload_n 0, [], 0), (.sipush 132, [], 132), (.newarray .int, [1], 0), (.putfield 103, [11, 44, 2, 141], 0), (.aload_n 0, [], 0), (.sipush 132, [], 132), (.newarray .int, [1], 0), (.putfield 106, [11, 45, 2, 142], 0), (.aload_n 0, [], 0), (.sipush 132, [], 132), (.newarray .boolean, [3], 0), (.putfield 109, [11, 46, 2, 143], 0), (.aload_n 0, [], 0), (.sipush 528, [], 528), (.newarray .int, [1], 0), (.putfield 113, [11, 47, 2, 144], 0), (.aload_n 0, [], 0), (.sipush 528, [], 528), (.newarray .int, [1], 0), (.putfield 116, [11, 48, 2, 145], 0), (.aload_n 0, [], 0), (.sipush 528, [], 528), (.newarray .int, [1], 0), (.putfield 119, [11, 49, 2, 146], 0), (.aload_n 0, [], 0), (.sipush 528, [], 528), (.newarray .int, [1], 0), (.putfield 122, [11, 50, 2, 147], 0), (.aload_n 0, [], 0), (.sipush 528, [], 528), (.newarray .int, [1], 0), (.putfield 125, [11, 51, 2, 148], 0), (.aload_n 0, [], 0), (.bipush 8, [], 8), (.newarray .int, [1], 0), (.putfield 128, [11, 53, 2, 149], 0), (.aload_n 0, [], 0), (.bipush 8, [], 8), (.newarray .int, [1], 0), (.putfield 131, [11, 54, 2, 150], 0), (.aload_n 0, [], 0), (.bipush 8, [], 8), (.newarray .int, [1], 0), (.putfield 134, [11, 55, 2, 151], 0), (.aload_n 0, [], 0), (.bipush 9, [], 9), (.newarray .int, [1], 0), (.putfield 137, [11, 56, 2, 152], 0), (.aload_n 0, [], 0), (.ldc 140, [], 101376), (.newarray .int, [1], 0), (.putfield 141, [11, 58, 2, 153], 0), (.aload_n 0, [], 0), (.bipush 21, [], 21), (.newarray .int, [1], 0), (.putfield 144, [11, 59, 2, 154], 0), (.aload_n 0, [], 0), (.bipush 21, [], 21), (.newarray .int, [1], 0), (.putfield 147, [11, 60, 2, 155], 0), (.aload_n 0, [], 0), (.bipush 21, [], 21), (.newarray .int, [1], 0), (.putfield 150, [11, 63, 2, 156], 0), (.iconst 0, [], 0), (.istore_n 1, [], 0)], 2, [true, false]),
  ([(.iload_n 1, [], 0), (.sipush 200, [], 200), (.if_icmp .ge 16, [3], 0), (.aload_n 0, [], 0), (.getfield 68, [11, 25, 2, 131], 0), (.iload_n 1, [], 0), (.iconst (-1), [], (-1)), (.iastore, [], 0), (.iinc 1 1, [], 1), (.goto (-17), [2], 0)], 0, [true, true]),
  ([(.return_, [], 0)], 0, [false, false])]
/-- CourtProgressModel.isHousehold(I)Z -/
def ai_c150 : List ai_Bk := [([(.iload_n 1, [], 0), (.ifCond .lt 15, [1], 0), (.iload_n 1, [], 0), (.aload_n 0, [], 0), (.getfield 153, [11, 4, 0, 157], 0), (.if_icmp .ge 7, [1], 0), (.iconst 1, [], 1), (.goto 4, [2], 0)], 0, [true, true]),
  ([(.iconst 0, [], 0)], 2, [false, false]),
  ([(.ireturn, [1], 0)], 0, [false, false])]
/-- CourtProgressModel.isPlace(I)Z -/
def ai_c151 : List ai_Bk := [([(.iload_n 1, [], 0), (.ifCond .lt 15, [1], 0), (.iload_n 1, [], 0), (.aload_n 0, [], 0), (.getfield 156, [11, 5, 0, 158], 0), (.if_icmp .ge 7, [1], 0), (.iconst 1, [], 1), (.goto 4, [2], 0)], 0, [true, true]),
  ([(.iconst 0, [], 0)], 2, [false, false]),
  ([(.ireturn, [1], 0)], 0, [false, false])]
/-- CourtProgressModel.isDay(I)Z -/
def ai_c152 : List ai_Bk := [([(.iload_n 0, [], 0), (.ifCond .lt 14, [1], 0), (.iload_n 0, [], 0), (.sipush 200, [], 200), (.if_icmp .ge 7, [1], 0), (.iconst 1, [], 1), (.goto 4, [2], 0)], 0, [true]),
  ([(.iconst 0, [], 0)], 2, [false]),
  ([(.ireturn, [1], 0)], 0, [false])]
/-- CourtProgressModel.household(III)I -/
def ai_c153 : List ai_Bk := [([(.aload_n 0, [], 0), (.iconst 0, [], 0), (.putfield 1, [11, 0, 0, 159], 0), (.iload_n 1, [], 0), (.iconst 1, [], 1), (.bipush 9, [], 9), (.invokestatic 159, [148, 3, 999, 0, 143], 0)], 1, [true, true, true, true]),
  ([(.ifCond .eq 23, [4], 0), (.iload_n 2, [], 0), (.iconst 1, [], 1), (.bipush 99, [], 99), (.invokestatic 159, [148, 3, 999, 0, 143], 0)], 2, [true, true, true, true]),
  ([(.ifCond .eq 13, [4], 0), (.iload_n 3, [], 0), (.iconst 0, [], 0), (.bipush 99, [], 99), (.invokestatic 159, [148, 3, 999, 0, 143], 0)], 3, [true, true, true, true]),
  ([(.ifCond .ne 9, [6], 0)], 4, [true, true, true, true]),
  ([(.aload_n 0, [], 0), (.iconst 2, [], 2), (.invokevirtual 163, [144, 2, 11, 0, 144], 0)], 5, [true, false, false, false]),
  ([(.ireturn, [0], 0)], 0, [false, false, false, false]),
  ([(.aload_n 0, [], 0), (.getfield 153, [11, 4, 0, 157], 0), (.bipush 8, [], 8), (.if_icmp .ne 9, [8], 0), (.aload_n 0, [], 0), (.iconst 3, [], 3), (.invokevirtual 163, [144, 2, 11, 0, 144], 0)], 7, [true, true, true, true]),
  ([(.ireturn, [0], 0)], 0, [false, false, false, false]),
  ([(.aload_n 0, [], 0), (.getfield 22, [11, 10, 2, 116], 0), (.aload_n 0, [], 0), (.getfield 153, [11, 4, 0, 157], 0), (.iload_n 1, [], 0), (.iastore, [], 0), (.aload_n 0, [], 0), (.getfield 26, [11, 11, 2, 117], 0), (.aload_n 0, [], 0), (.getfield 153, [11, 4, 0, 157], 0), (.iload_n 2, [], 0), (.iastore, [], 0), (.aload_n 0, [], 0), (.getfield 29, [11, 12, 2, 118], 0), (.aload_n 0, [], 0), (.getfield 153, [11, 4, 0, 157], 0), (.iload_n 3, [], 0), (.iastore, [], 0), (.aload_n 0, [], 0), (.dup, [], 0), (.getfield 153, [11, 4, 0, 157], 0), (.iconst 1, [], 1), (.iadd, [], 0), (.putfield 153, [11, 4, 0, 157], 0), (.aload_n 0, [], 0), (.aload_n 0, [], 0), (.getfield 153, [11, 4, 0, 157], 0), (.iconst 1, [], 1), (.isub, [], 0), (.invokevirtual 167, [146, 2, 11, 0, 145], 0)], 9, [true, true, true, true]),
  ([(.ireturn, [0], 0)], 0, [false, false, false, false])]
/-- CourtProgressModel.bar(IIZ)Z -/
def ai_c154 : List ai_Bk := [([(.aload_n 0, [], 0), (.iconst 0, [], 0), (.putfield 1, [11, 0, 0, 159], 0), (.aload_n 0, [], 0), (.iload_n 1, [], 0), (.invokevirtual 170, [150, 2, 11, 0, 146], 0)], 1, [true, true, true, true]),
  ([(.ifCond .eq 16, [3], 0), (.aload_n 0, [], 0), (.iload_n 2, [], 0), (.invokevirtual 170, [150, 2, 11, 0, 146], 0)], 2, [true, true, true, true]),
  ([(.ifCond .eq 8, [3], 0), (.iload_n 1, [], 0), (.iload_n 2, [], 0), (.if_icmp .ne 9, [5], 0)], 3, [true, true, true, true]),
  ([(.aload_n 0, [], 0), (.iconst 1, [], 1), (.invokevirtual 174, [145, 2, 11, 0, 147], 0)], 4, [true, false, false, false]),
  ([(.ireturn, [1], 0)], 0, [false, false, false, false]),
  ([(.aload_n 0, [], 0), (.getfield 32, [11, 13, 2, 119], 0), (.iload_n 1, [], 0), (.iload_n 3, [], 0), (.ifCond .eq 16, [6], 0), (.aload_n 0, [], 0), (.getfield 32, [11, 13, 2, 119], 0), (.iload_n 1, [], 0), (.iaload, [], 0), (.iconst 1, [], 1), (.iload_n 2, [], 0), (.ishl, [], 0), (.ior, [], 0), (.goto 15, [7], 0)], 0, [true, true, true, true]),
  ([(.aload_n 0, [], 0), (.getfield 32, [11, 13, 2, 119], 0), (.iload_n 1, [], 0), (.iaload, [], 0), (.iconst 1, [], 1), (.iload_n 2, [], 0), (.ishl, [], 0), (.iconst (-1), [], (-1)), (.ixor, [], 0), (.iand, [], 0)], 7, [true, true, true, true]),
  ([(.iastore, [], 0), (.aload_n 0, [], 0), (.getfield 32, [11, 13, 2, 119], 0), (.iload_n 2, [], 0), (.iload_n 3, [], 0), (.ifCond .eq 16, [8], 0), (.aload_n 0, [], 0), (.getfield 32, [11, 13, 2, 119], 0), (.iload_n 2, [], 0), (.iaload, [], 0), (.iconst 1, [], 1), (.iload_n 1, [], 0), (.ishl, [], 0), (.ior, [], 0), (.goto 15, [9], 0)], 0, [true, true, true, true]),
  ([(.aload_n 0, [], 0), (.getfield 32, [11, 13, 2, 119], 0), (.iload_n 2, [], 0), (.iaload, [], 0), (.iconst 1, [], 1), (.iload_n 1, [], 0), (.ishl, [], 0), (.iconst (-1), [], (-1)), (.ixor, [], 0), (.iand, [], 0)], 9, [true, true, true, false]),
  ([(.iastore, [], 0), (.aload_n 0, [], 0), (.invokevirtual 177, [147, 1, 11, 0, 148], 0)], 10, [true, false, false, false]),
  ([(.ireturn, [1], 0)], 0, [false, false, false, false])]
/-- CourtProgressModel.place(III)I -/
def ai_c155 : List ai_Bk := [([(.aload_n 0, [], 0), (.iconst 0, [], 0), (.putfield 1, [11, 0, 0, 159], 0), (.iload_n 1, [], 0), (.iconst 0, [], 0), (.ldc 181, [], 1000000), (.invokestatic 159, [148, 3, 999, 0, 143], 0)], 1, [true, true, true, true]),
  ([(.ifCond .eq 24, [4], 0), (.iload_n 2, [], 0), (.iconst 0, [], 0), (.ldc 181, [], 1000000), (.invokestatic 159, [148, 3, 999, 0, 143], 0)], 2, [true, true, true, true]),
  ([(.ifCond .eq 14, [4], 0), (.iload_n 3, [], 0), (.iconst 0, [], 0), (.sipush 999, [], 999), (.invokestatic 159, [148, 3, 999, 0, 143], 0)], 3, [true, true, true, true]),
  ([(.ifCond .ne 9, [6], 0)], 4, [true, true, true, true]),
  ([(.aload_n 0, [], 0), (.iconst 2, [], 2), (.invokevirtual 163, [144, 2, 11, 0, 144], 0)], 5, [true, false, false, false]),
  ([(.ireturn, [0], 0)], 0, [false, false, false, false]),
  ([(.aload_n 0, [], 0), (.getfield 156, [11, 5, 0, 158], 0), (.bipush 9, [], 9), (.if_icmp .ne 9, [8], 0), (.aload_n 0, [], 0), (.iconst 3, [], 3), (.invokevirtual 163, [144, 2, 11, 0, 144], 0)], 7, [true, true, true, true]),
  ([(.ireturn, [0], 0)], 0, [false, false, false, false]),
  ([(.aload_n 0, [], 0), (.getfield 35, [11, 14, 2, 120], 0), (.aload_n 0, [], 0), (.getfield 156, [11, 5, 0, 158], 0), (.iload_n 1, [], 0), (.iastore, [], 0), (.aload_n 0, [], 0), (.getfield 38, [11, 15, 2, 121], 0), (.aload_n 0, [], 0), (.getfield 156, [11, 5, 0, 158], 0), (.iload_n 2, [], 0), (.iastore, [], 0), (.aload_n 0, [], 0), (.getfield 41, [11, 16, 2, 122], 0), (.aload_n 0, [], 0), (.getfield 156, [11, 5, 0, 158], 0), (.iload_n 3, [], 0), (.iastore, [], 0), (.aload_n 0, [], 0), (.getfield 156, [11, 5, 0, 158], 0), (.ifCond .ne 8, [9], 0), (.aload_n 0, [], 0), (.iconst 0, [], 0), (.putfield 19, [11, 9, 0, 115], 0)], 9, [true, true, true, true]),
  ([(.aload_n 0, [], 0), (.dup, [], 0), (.getfield 156, [11, 5, 0, 158], 0), (.iconst 1, [], 1), (.iadd, [], 0), (.putfield 156, [11, 5, 0, 158], 0), (.aload_n 0, [], 0), (.aload_n 0, [], 0), (.getfield 156, [11, 5, 0, 158], 0), (.iconst 1, [], 1), (.isub, [], 0), (.invokevirtual 167, [146, 2, 11, 0, 145], 0)], 10, [true, false, false, false]),
  ([(.ireturn, [0], 0)], 0, [false, false, false, false])]
/-- CourtProgressModel.room(IIII)I -/
def ai_c156 : List ai_Bk := [([(.aload_n 0, [], 0), (.iconst 0, [], 0), (.putfield 1, [11, 0, 0, 159], 0), (.aload_n 0, [], 0), (.iload_n 1, [], 0), (.invokevirtual 182, [151, 2, 11, 0, 149], 0)], 1, [true, true, true, true, true, false]),
  ([(.ifCond .ne 9, [3], 0), (.aload_n 0, [], 0), (.iconst 1, [], 1), (.invokevirtual 163, [144, 2, 11, 0, 144], 0)], 2, [true, true, true, true, true, false]),
  ([(.ireturn, [0], 0)], 0, [false, false, false, false, false, false]),
  ([(.iload_n 2, [], 0), (.iconst 1, [], 1), (.bipush 9, [], 9), (.invokestatic 159, [148, 3, 999, 0, 143], 0)], 4, [true, true, true, true, true, false]),
  ([(.ifCond .eq 23, [7], 0), (.iload_n 3, [], 0), (.iconst 0, [], 0), (.iconst 3, [], 3), (.invokestatic 159, [148, 3, 999, 0, 143], 0)], 5, [true, true, true, true, true, false]),
  ([(.ifCond .eq 14, [7], 0), (.iload 4, [], 0), (.iconst 0, [], 0), (.bipush 99, [], 99), (.invokestatic 159, [148, 3, 999, 0, 143], 0)], 6, [true, true, true, true, true, false]),
  ([(.ifCond .ne 9, [9], 0)], 7, [true, true, true, true, true, false]),
  ([(.aload_n 0, [], 0), (.iconst 2, [], 2), (.invokevirtual 163, [144, 2, 11, 0, 144], 0)], 8, [true, false, false, false, false, false]),
  ([(.ireturn, [0], 0)], 0, [false, false, false, false, false, false]),
  ([(.aload_n 0, [], 0), (.getfield 50, [11, 19, 2, 125], 0), (.iload_n 1, [], 0), (.iaload, [], 0), (.bipush 10, [], 10), (.if_icmp .ne 9, [11], 0), (.aload_n 0, [], 0), (.iconst 3, [], 3), (.invokevirtual 163, [144, 2, 11, 0, 144], 0)], 10, [true, true, true, true, true, false]),
  ([(.ireturn, [0], 0)], 0, [false, false, false, false, false, false]),
  ([(.bipush 10, [], 10), (.iload_n 1, [], 0), (.imul, [], 0), (.aload_n 0, [], 0), (.getfield 50, [11, 19, 2, 125], 0), (.iload_n 1, [], 0), (.iaload, [], 0), (.iadd, [], 0), (.istore 5, [], 0), (.aload_n 0, [], 0), (.getfield 53, [11, 20, 2, 126], 0), (.iload 5, [], 0), (.iload_n 2, [], 0), (.iastore, [], 0), (.aload_n 0, [], 0), (.getfield 56, [11, 21, 2, 127], 0), (.iload 5, [], 0), (.iload_n 3, [], 0), (.iastore, [], 0), (.aload_n 0, [], 0), (.getfield 59, [11, 22, 2, 128], 0), (.iload 5, [], 0), (.iload 4, [], 0), (.iastore, [], 0), (.aload_n 0, [], 0), (.getfield 50, [11, 19, 2, 125], 0), (.iload_n 1, [], 0), (.dup2, [], 0), (.iaload, [], 0), (.iconst 1, [], 1), (.iadd, [], 0), (.iastore, [], 0), (.aload_n 0, [], 0), (.aload_n 0, [], 0), (.getfield 50, [11, 19, 2, 125], 0), (.iload_n 1, [], 0), (.iaload, [], 0), (.iconst 1, [], 1), (.isub, [], 0), (.invokevirtual 167, [146, 2, 11, 0, 145], 0)], 12, [true, true, true, true, true, false]),
  ([(.ireturn, [0], 0)], 0, [false, false, false, false, false, false])]
/-- CourtProgressModel.way(III)Z -/
def ai_c157 : List ai_Bk := [([(.aload_n 0, [], 0), (.iconst 0, [], 0), (.putfield 1, [11, 0, 0, 159], 0), (.aload_n 0, [], 0), (.iload_n 1, [], 0), (.invokevirtual 182, [151, 2, 11, 0, 149], 0)], 1, [true, true, true, true]),
  ([(.ifCond .eq 16, [3], 0), (.aload_n 0, [], 0), (.iload_n 2, [], 0), (.invokevirtual 182, [151, 2, 11, 0, 149], 0)], 2, [true, true, true, true]),
  ([(.ifCond .eq 8, [3], 0), (.iload_n 1, [], 0), (.iload_n 2, [], 0), (.if_icmp .ne 9, [5], 0)], 3, [true, true, true, true]),
  ([(.aload_n 0, [], 0), (.iconst 1, [], 1), (.invokevirtual 174, [145, 2, 11, 0, 147], 0)], 4, [true, false, false, false]),
  ([(.ireturn, [1], 0)], 0, [false, false, false, false]),
  ([(.iload_n 3, [], 0), (.iconst 0, [], 0), (.bipush 48, [], 48), (.invokestatic 159, [148, 3, 999, 0, 143], 0)], 6, [true, true, true, true]),
  ([(.ifCond .ne 9, [8], 0), (.aload_n 0, [], 0), (.iconst 2, [], 2), (.invokevirtual 174, [145, 2, 11, 0, 147], 0)], 7, [true, true, true, true]),
  ([(.ireturn, [1], 0)], 0, [false, false, false, false]),
  ([(.aload_n 0, [], 0), (.getfield 62, [11, 23, 2, 129], 0), (.bipush 9, [], 9), (.iload_n 1, [], 0), (.imul, [], 0), (.iload_n 2, [], 0), (.iadd, [], 0), (.iload_n 3, [], 0), (.iastore, [], 0), (.aload_n 0, [], 0), (.getfield 62, [11, 23, 2, 129], 0), (.bipush 9, [], 9), (.iload_n 2, [], 0), (.imul, [], 0), (.iload_n 1, [], 0), (.iadd, [], 0), (.iload_n 3, [], 0), (.iastore, [], 0), (.aload_n 0, [], 0), (.invokevirtual 177, [147, 1, 11, 0, 148], 0)], 9, [true, true, true, true]),
  ([(.ireturn, [1], 0)], 0, [false, false, false, false])]
/-- CourtProgressModel.mud(III)Z -/
def ai_c158 : List ai_Bk := [([(.aload_n 0, [], 0), (.iconst 0, [], 0), (.putfield 1, [11, 0, 0, 159], 0), (.iload_n 1, [], 0), (.ifCond .lt 24, [2], 0), (.iload_n 1, [], 0), (.iload_n 2, [], 0), (.if_icmp .gt 19, [2], 0), (.iload_n 2, [], 0), (.sipush 200, [], 200), (.if_icmp .ge 12, [2], 0), (.iload_n 3, [], 0), (.iconst 0, [], 0), (.iconst 4, [], 4), (.invokestatic 159, [148, 3, 999, 0, 143], 0)], 1, [true, true, true, true, false]),
  ([(.ifCond .ne 9, [4], 0)], 2, [true, true, true, true, false]),
  ([(.aload_n 0, [], 0), (.iconst 2, [], 2), (.invokevirtual 174, [145, 2, 11, 0, 147], 0)], 3, [true, false, false, false, false]),
  ([(.ireturn, [1], 0)], 0, [false, false, false, false, false]),
  ([(.iload_n 1, [], 0), (.istore 4, [], 0)], 5, [true, true, true, true, false]),
  ([(.iload 4, [], 0), (.iload_n 2, [], 0), (.if_icmp .gt 17, [6], 0), (.aload_n 0, [], 0), (.getfield 65, [11, 24, 2, 130], 0), (.iload 4, [], 0), (.iload_n 3, [], 0), (.iastore, [], 0), (.iinc 4 1, [], 1), (.goto (-17), [5], 0)], 0, [true, false, true, true, true]),
  ([(.aload_n 0, [], 0), (.invokevirtual 177, [147, 1, 11, 0, 148], 0)], 7, [true, false, false, false, false]),
  ([(.ireturn, [1], 0)], 0, [false, false, false, false, false])]
/-- CourtProgressModel.feast(II)Z -/
def ai_c159 : List ai_Bk := [([(.aload_n 0, [], 0), (.iconst 0, [], 0), (.putfield 1, [11, 0, 0, 159], 0), (.iload_n 2, [], 0), (.iconst (-1), [], (-1)), (.if_icmp .eq 17, [3], 0), (.aload_n 0, [], 0), (.iload_n 2, [], 0), (.invokevirtual 182, [151, 2, 11, 0, 149], 0)], 1, [true, true, true]),
  ([(.ifCond .ne 9, [3], 0), (.aload_n 0, [], 0), (.iconst 1, [], 1), (.invokevirtual 174, [145, 2, 11, 0, 147], 0)], 2, [true, true, true]),
  ([(.ireturn, [1], 0)], 0, [false, false, false]),
  ([(.iload_n 1, [], 0), (.invokestatic 185, [152, 1, 999, 0, 150], 0)], 4, [true, true, true]),
  ([(.ifCond .ne 9, [6], 0), (.aload_n 0, [], 0), (.iconst 2, [], 2), (.invokevirtual 174, [145, 2, 11, 0, 147], 0)], 5, [true, true, true]),
  ([(.ireturn, [1], 0)], 0, [false, false, false]),
  ([(.iload_n 2, [], 0), (.iconst (-1), [], (-1)), (.if_icmp .eq 28, [8], 0), (.aload_n 0, [], 0), (.getfield 68, [11, 25, 2, 131], 0), (.iload_n 1, [], 0), (.iaload, [], 0), (.iconst (-1), [], (-1)), (.if_icmp .ne 18, [8], 0), (.aload_n 0, [], 0), (.getfield 188, [11, 6, 0, 160], 0), (.bipush 8, [], 8), (.if_icmp .ne 9, [8], 0), (.aload_n 0, [], 0), (.iconst 3, [], 3), (.invokevirtual 174, [145, 2, 11, 0, 147], 0)], 7, [true, true, true]),
  ([(.ireturn, [1], 0)], 0, [false, false, false]),
  ([(.aload_n 0, [], 0), (.dup, [], 0), (.getfield 188, [11, 6, 0, 160], 0), (.iload_n 2, [], 0), (.iconst (-1), [], (-1)), (.if_icmp .ne 7, [9], 0), (.iconst 0, [], 0), (.goto 4, [10], 0)], 0, [true, true, true]),
  ([(.iconst 1, [], 1)], 10, [true, true, true]),
  ([(.aload_n 0, [], 0), (.getfield 68, [11, 25, 2, 131], 0), (.iload_n 1, [], 0), (.iaload, [], 0), (.iconst (-1), [], (-1)), (.if_icmp .ne 7, [11], 0), (.iconst 0, [], 0), (.goto 4, [12], 0)], 0, [true, true, true]),
  ([(.iconst 1, [], 1)], 12, [true, true, true]),
  ([(.isub, [], 0), (.iadd, [], 0), (.putfield 188, [11, 6, 0, 160], 0), (.aload_n 0, [], 0), (.getfield 68, [11, 25, 2, 131], 0), (.iload_n 1, [], 0), (.iload_n 2, [], 0), (.iastore, [], 0), (.aload_n 0, [], 0), (.invokevirtual 177, [147, 1, 11, 0, 148], 0)], 13, [true, true, true]),
  ([(.ireturn, [1], 0)], 0, [false, false, false])]
/-- CourtProgressModel.bring(III)Z -/
def ai_c160 : List ai_Bk := [([(.aload_n 0, [], 0), (.iconst 0, [], 0), (.putfield 1, [11, 0, 0, 159], 0), (.aload_n 0, [], 0), (.iload_n 1, [], 0), (.invokevirtual 182, [151, 2, 11, 0, 149], 0)], 1, [true, true, true, true, false, false, false, false]),
  ([(.ifCond .ne 9, [3], 0), (.aload_n 0, [], 0), (.iconst 1, [], 1), (.invokevirtual 174, [145, 2, 11, 0, 147], 0)], 2, [true, true, true, true, false, false, false, false]),
  ([(.ireturn, [1], 0)], 0, [false, false, false, false, false, false, false, false]),
  ([(.aload_n 0, [], 0), (.getfield 35, [11, 14, 2, 120], 0), (.iload_n 1, [], 0), (.iaload, [], 0), (.i2l, [], 0), (.iload_n 2, [], 0), (.i2l, [], 0), (.ladd, [], 0), (.lstore 4, [], 0), (.aload_n 0, [], 0), (.getfield 38, [11, 15, 2, 121], 0), (.iload_n 1, [], 0), (.iaload, [], 0), (.i2l, [], 0), (.iload_n 3, [], 0), (.i2l, [], 0), (.ladd, [], 0), (.lstore 6, [], 0), (.lload 4, [], 0), (.lconst 0, [], 0), (.lcmp, [], 0), (.ifCond .lt 28, [4], 0), (.lload 4, [], 0), (.ldc2_w 191, [], 1000000), (.lcmp, [], 0), (.ifCond .gt 19, [4], 0), (.lload 6, [], 0), (.lconst 0, [], 0), (.lcmp, [], 0), (.ifCond .lt 12, [4], 0), (.lload 6, [], 0), (.ldc2_w 191, [], 1000000), (.lcmp, [], 0), (.ifCond .le 9, [6], 0)], 4, [true, true, true, true, false, false, false, false]),
  ([(.aload_n 0, [], 0), (.iconst 2, [], 2), (.invokevirtual 174, [145, 2, 11, 0, 147], 0)], 5, [true, false, false, false, false, false, false, false]),
  ([(.ireturn, [1], 0)], 0, [false, false, false, false, false, false, false, false]),
  ([(.aload_n 0, [], 0), (.getfield 35, [11, 14, 2, 120], 0), (.iload_n 1, [], 0), (.lload 4, [], 0), (.l2i, [], 0), (.iastore, [], 0), (.aload_n 0, [], 0), (.getfield 38, [11, 15, 2, 121], 0), (.iload_n 1, [], 0), (.lload 6, [], 0), (.l2i, [], 0), (.iastore, [], 0), (.aload_n 0, [], 0), (.invokevirtual 177, [147, 1, 11, 0, 148], 0)], 7, [true, true, false, false, true, false, true, false]),
  ([(.ireturn, [1], 0)], 0, [false, false, false, false, false, false, false, false])]
/-- CourtProgressModel.stop(I)LCourtProgressModel$Stop; -/
def ai_c161 : List ai_Bk := [([(.aload_n 0, [], 0), (.getfield 89, [11, 31, 2, 137], 0), (.iload_n 1, [], 0), (.putfield 193, [10, 6, 0, 161], 0), (.aload_n 0, [], 0), (.getfield 89, [11, 31, 2, 137], 0), (.aload_n 0, [], 0), (.getfield 196, [11, 37, 0, 162], 0), (.putfield 199, [10, 7, 0, 163], 0), (.aload_n 0, [], 0), (.getfield 89, [11, 31, 2, 137], 0), (.areturn, [], 0)], 0, [true, true])]
/-- CourtProgressModel.byteAt(I)I -/
def ai_c162 : List ai_Bk := [([(.iload_n 1, [], 0), (.aload_n 0, [], 0), (.getfield 200, [11, 34, 0, 164], 0), (.if_icmp .ge 16, [1], 0), (.aload_n 0, [], 0), (.getfield 93, [11, 32, 2, 138], 0), (.iload_n 1, [], 0), (.baload, [], 0), (.sipush 255, [], 255), (.iand, [], 0), (.goto 4, [2], 0)], 0, [true, true]),
  ([(.iconst (-1), [], (-1))], 2, [false, false]),
  ([(.ireturn, [0], 0)], 0, [false, false])]
/-- CourtProgressModel.isLetter(I)Z -/
def ai_c163 : List ai_Bk := [([(.iload_n 0, [], 0), (.bipush 97, [], 97), (.if_icmp .lt 13, [1], 0), (.iload_n 0, [], 0), (.bipush 122, [], 122), (.if_icmp .gt 7, [1], 0), (.iconst 1, [], 1), (.goto 4, [2], 0)], 0, [true]),
  ([(.iconst 0, [], 0)], 2, [false]),
  ([(.ireturn, [1], 0)], 0, [false])]
/-- CourtProgressModel.isDigit(I)Z -/
def ai_c164 : List ai_Bk := [([(.iload_n 0, [], 0), (.bipush 48, [], 48), (.if_icmp .lt 13, [1], 0), (.iload_n 0, [], 0), (.bipush 57, [], 57), (.if_icmp .gt 7, [1], 0), (.iconst 1, [], 1), (.goto 4, [2], 0)], 0, [true]),
  ([(.iconst 0, [], 0)], 2, [false]),
  ([(.ireturn, [1], 0)], 0, [false])]
/-- CourtProgressModel.wordOf(Ljava/lang/String;)J -/
def ai_c165 : List ai_Bk := [([(.lconst 0, [], 0), (.lstore_n 1, [], 0), (.iconst 0, [], 0), (.istore_n 3, [], 0)], 1, [true, false, false, false]),
  ([(.iload_n 3, [], 0), (.aload_n 0, [], 0), (.invokevirtual 203, [300, 1, 998, 0, 151], 0)], 2, [true, true, false, true]),
  ([(.if_icmp .ge 27, [4], 0), (.ldc2_w 209, [], 32), (.lload_n 1, [], 0), (.lmul, [], 0), (.aload_n 0, [], 0), (.iload_n 3, [], 0), (.invokevirtual 211, [301, 2, 998, 0, 152], 0)], 3, [true, true, false, true]),
  ([(.bipush 97, [], 97), (.isub, [], 0), (.iconst 1, [], 1), (.iadd, [], 0), (.i2l, [], 0), (.ladd, [], 0), (.lstore_n 1, [], 0), (.iinc 3 1, [], 1), (.goto (-29), [1], 0)], 0, [true, false, false, true]),
  ([(.lload_n 1, [], 0), (.lreturn, [], 0)], 0, [false, true, false, false])]
/-- CourtProgressModel.next()V -/
def ai_c166 : List ai_Bk := [([(.aload_n 0, [], 0), (.aload_n 0, [], 0), (.getfield 215, [11, 35, 0, 165], 0), (.invokevirtual 218, [162, 2, 11, 0, 153], 0)], 1, [true, false, false]),
  ([(.bipush 32, [], 32), (.if_icmp .ne 16, [2], 0), (.aload_n 0, [], 0), (.dup, [], 0), (.getfield 215, [11, 35, 0, 165], 0), (.iconst 1, [], 1), (.iadd, [], 0), (.putfield 215, [11, 35, 0, 165], 0), (.goto (-23), [0], 0)], 0, [true, false, false]),
  ([(.aload_n 0, [], 0), (.aload_n 0, [], 0), (.getfield 215, [11, 35, 0, 165], 0), (.putfield 196, [11, 37, 0, 162], 0), (.aload_n 0, [], 0), (.iconst 0, [], 0), (.putfield 221, [11, 36, 0, 166], 0), (.aload_n 0, [], 0), (.iconst 0, [], 0), (.putfield 224, [11, 38, 0, 167], 0), (.aload_n 0, [], 0), (.aload_n 0, [], 0), (.getfield 215, [11, 35, 0, 165], 0), (.invokevirtual 218, [162, 2, 11, 0, 153], 0)], 3, [true, false, false]),
  ([(.istore_n 1, [], 0), (.iconst 0, [], 0), (.istore_n 2, [], 0), (.iload_n 1, [], 0), (.iconst (-1), [], (-1)), (.if_icmp .ne 11, [4], 0), (.aload_n 0, [], 0), (.iconst 1, [], 1), (.putfield 221, [11, 36, 0, 166], 0), (.goto 231, [22], 0)], 0, [true, false, false]),
  ([(.iload_n 1, [], 0), (.invokestatic 227, [163, 1, 999, 0, 154], 0)], 5, [true, true, true]),
  ([(.ifCond .eq 85, [12], 0), (.aload_n 0, [], 0), (.lconst 0, [], 0), (.putfield 230, [11, 40, 1, 168], 0)], 6, [true, true, true]),
  ([(.aload_n 0, [], 0), (.aload_n 0, [], 0), (.getfield 215, [11, 35, 0, 165], 0), (.invokevirtual 218, [162, 2, 11, 0, 153], 0)], 7, [true, false, true]),
  ([(.invokestatic 227, [163, 1, 999, 0, 154], 0)], 8, [true, false, true]),
  ([(.ifCond .eq 52, [11], 0), (.iload_n 2, [], 0), (.bipush 8, [], 8), (.if_icmp .ge 30, [10], 0), (.aload_n 0, [], 0), (.ldc2_w 209, [], 32), (.aload_n 0, [], 0), (.getfield 230, [11, 40, 1, 168], 0), (.lmul, [], 0), (.aload_n 0, [], 0), (.aload_n 0, [], 0), (.getfield 215, [11, 35, 0, 165], 0), (.invokevirtual 218, [162, 2, 11, 0, 153], 0)], 9, [true, false, true]),
  ([(.bipush 97, [], 97), (.isub, [], 0), (.iconst 1, [], 1), (.iadd, [], 0), (.i2l, [], 0), (.ladd, [], 0), (.putfield 230, [11, 40, 1, 168], 0)], 10, [true, false, true]),
  ([(.iinc 2 1, [], 1), (.aload_n 0, [], 0), (.dup, [], 0), (.getfield 215, [11, 35, 0, 165], 0), (.iconst 1, [], 1), (.iadd, [], 0), (.putfield 215, [11, 35, 0, 165], 0), (.goto (-60), [6], 0)], 0, [true, false, true]),
  ([(.iload_n 2, [], 0), (.bipush 9, [], 9), (.if_icmp .ge 150, [22], 0), (.aload_n 0, [], 0), (.iconst 2, [], 2), (.putfield 221, [11, 36, 0, 166], 0), (.goto 142, [22], 0)], 0, [true, false, true]),
  ([(.iload_n 1, [], 0), (.invokestatic 234, [164, 1, 999, 0, 155], 0)], 13, [true, true, true]),
  ([(.ifCond .eq 79, [20], 0), (.aload_n 0, [], 0), (.iconst 0, [], 0), (.putfield 237, [11, 39, 0, 169], 0)], 14, [true, true, true]),
  ([(.aload_n 0, [], 0), (.aload_n 0, [], 0), (.getfield 215, [11, 35, 0, 165], 0), (.invokevirtual 218, [162, 2, 11, 0, 153], 0)], 15, [true, false, true]),
  ([(.invokestatic 234, [164, 1, 999, 0, 155], 0)], 16, [true, false, true]),
  ([(.ifCond .eq 47, [19], 0), (.iload_n 2, [], 0), (.iconst 3, [], 3), (.if_icmp .ge 26, [18], 0), (.aload_n 0, [], 0), (.bipush 10, [], 10), (.aload_n 0, [], 0), (.getfield 237, [11, 39, 0, 169], 0), (.imul, [], 0), (.aload_n 0, [], 0), (.aload_n 0, [], 0), (.getfield 215, [11, 35, 0, 165], 0), (.invokevirtual 218, [162, 2, 11, 0, 153], 0)], 17, [true, false, true]),
  ([(.iadd, [], 0), (.bipush 48, [], 48), (.isub, [], 0), (.putfield 237, [11, 39, 0, 169], 0)], 18, [true, false, true]),
  ([(.iinc 2 1, [], 1), (.aload_n 0, [], 0), (.dup, [], 0), (.getfield 215, [11, 35, 0, 165], 0), (.iconst 1, [], 1), (.iadd, [], 0), (.putfield 215, [11, 35, 0, 165], 0), (.goto (-55), [14], 0)], 0, [true, false, true]),
  ([(.iload_n 2, [], 0), (.iconst 4, [], 4), (.if_icmp .ge 67, [22], 0), (.aload_n 0, [], 0), (.iconst 3, [], 3), (.putfield 221, [11, 36, 0, 166], 0), (.goto 59, [22], 0)], 0, [true, false, true]),
  ([(.iload_n 1, [], 0), (.bipush 60, [], 60), (.if_icmp .eq 33, [21], 0), (.iload_n 1, [], 0), (.bipush 62, [], 62), (.if_icmp .eq 27, [21], 0), (.iload_n 1, [], 0), (.bipush 61, [], 61), (.if_icmp .eq 21, [21], 0), (.iload_n 1, [], 0), (.bipush 43, [], 43), (.if_icmp .eq 15, [21], 0), (.iload_n 1, [], 0), (.bipush 42, [], 42), (.if_icmp .eq 9, [21], 0), (.iload_n 1, [], 0), (.bipush 59, [], 59), (.if_icmp .ne 23, [22], 0)], 21, [true, true, false]),
  ([(.aload_n 0, [], 0), (.iconst 4, [], 4), (.putfield 221, [11, 36, 0, 166], 0), (.aload_n 0, [], 0), (.iload_n 1, [], 0), (.putfield 224, [11, 38, 0, 167], 0), (.aload_n 0, [], 0), (.dup, [], 0), (.getfield 215, [11, 35, 0, 165], 0), (.iconst 1, [], 1), (.iadd, [], 0), (.putfield 215, [11, 35, 0, 165], 0)], 22, [true, true, false]),
  ([(.return_, [], 0)], 0, [false, false, false])]
/-- CourtProgressModel.isWord(Ljava/lang/String;)Z -/
def ai_c167 : List ai_Bk := [([(.aload_n 0, [], 0), (.getfield 221, [11, 36, 0, 166], 0), (.iconst 2, [], 2), (.if_icmp .ne 19, [2], 0), (.aload_n 0, [], 0), (.getfield 230, [11, 40, 1, 168], 0), (.aload_n 1, [], 0), (.invokestatic 240, [165, 1, 999, 0, 156], 0)], 1, [true, true]),
  ([(.lcmp, [], 0), (.ifCond .ne 7, [2], 0), (.iconst 1, [], 1), (.goto 4, [3], 0)], 0, [false, false]),
  ([(.iconst 0, [], 0)], 3, [false, false]),
  ([(.ireturn, [1], 0)], 0, [false, false])]
/-- CourtProgressModel.is(I)Z -/
def ai_c168 : List ai_Bk := [([(.aload_n 0, [], 0), (.getfield 221, [11, 36, 0, 166], 0), (.iconst 4, [], 4), (.if_icmp .ne 15, [1], 0), (.aload_n 0, [], 0), (.getfield 224, [11, 38, 0, 167], 0), (.iload_n 1, [], 0), (.if_icmp .ne 7, [1], 0), (.iconst 1, [], 1), (.goto 4, [2], 0)], 0, [true, true]),
  ([(.iconst 0, [], 0)], 2, [false, false]),
  ([(.ireturn, [1], 0)], 0, [false, false])]
/-- CourtProgressModel.nameHere()I -/
def ai_c169 : List ai_Bk := [([(.aload_n 0, [], 0), (.getfield 221, [11, 36, 0, 166], 0), (.iconst 2, [], 2), (.if_icmp .ne 39, [5], 0), (.aload_n 0, [], 0), (.ldc 244, [10], 0), (.invokevirtual 246, [167, 2, 11, 0, 157], 0)], 1, [true, false]),
  ([(.ifCond .ne 30, [5], 0), (.aload_n 0, [], 0), (.ldc 250, [13], 0), (.invokevirtual 246, [167, 2, 11, 0, 157], 0)], 2, [true, false]),
  ([(.ifCond .ne 21, [5], 0), (.aload_n 0, [], 0), (.ldc 252, [11], 0), (.invokevirtual 246, [167, 2, 11, 0, 157], 0)], 3, [true, false]),
  ([(.ifCond .ne 12, [5], 0), (.aload_n 0, [], 0), (.ldc 254, [12], 0), (.invokevirtual 246, [167, 2, 11, 0, 157], 0)], 4, [true, false]),
  ([(.ifCond .eq 9, [7], 0)], 5, [true, false]),
  ([(.aload_n 0, [], 0), (.iconst 1, [], 1), (.invokevirtual 255, [161, 2, 11, 0, 158], 0)], 6, [true, false]),
  ([(.athrow, [], 0)], 0, [false, false]),
  ([(.aload_n 0, [], 0), (.ldc_w 258, [14], 0), (.invokevirtual 246, [167, 2, 11, 0, 157], 0)], 8, [true, false]),
  ([(.ifCond .eq 7, [9], 0), (.iconst 0, [], 0), (.goto 74, [20], 0)], 0, [true, false]),
  ([(.aload_n 0, [], 0), (.ldc_w 259, [15], 0), (.invokevirtual 246, [167, 2, 11, 0, 157], 0)], 10, [true, false]),
  ([(.ifCond .eq 7, [11], 0), (.iconst 1, [], 1), (.goto 60, [20], 0)], 0, [true, false]),
  ([(.aload_n 0, [], 0), (.ldc_w 260, [16], 0), (.invokevirtual 246, [167, 2, 11, 0, 157], 0)], 12, [true, false]),
  ([(.ifCond .eq 7, [13], 0), (.iconst 2, [], 2), (.goto 46, [20], 0)], 0, [true, false]),
  ([(.aload_n 0, [], 0), (.ldc_w 261, [17], 0), (.invokevirtual 246, [167, 2, 11, 0, 157], 0)], 14, [true, false]),
  ([(.ifCond .eq 7, [15], 0), (.iconst 3, [], 3), (.goto 32, [20], 0)], 0, [true, false]),
  ([(.aload_n 0, [], 0), (.ldc_w 263, [18], 0), (.invokevirtual 246, [167, 2, 11, 0, 157], 0)], 16, [true, false]),
  ([(.ifCond .eq 7, [17], 0), (.iconst 4, [], 4), (.goto 18, [20], 0)], 0, [true, false]),
  ([(.aload_n 0, [], 0), (.ldc_w 264, [19], 0), (.invokevirtual 246, [167, 2, 11, 0, 157], 0)], 18, [true, false]),
  ([(.ifCond .eq 7, [19], 0), (.iconst 5, [], 5), (.goto 4, [20], 0)], 0, [true, false]),
  ([(.iconst (-1), [], (-1))], 20, [true, false]),
  ([(.istore_n 1, [], 0), (.iload_n 1, [], 0), (.iconst (-1), [], (-1)), (.if_icmp .ne 9, [22], 0), (.aload_n 0, [], 0), (.iconst 2, [], 2), (.invokevirtual 255, [161, 2, 11, 0, 158], 0)], 21, [true, false]),
  ([(.athrow, [], 0)], 0, [false, false]),
  ([(.iload_n 1, [], 0), (.ireturn, [0], 0)], 0, [false, true])]
/-- CourtProgressModel.reads()V -/
def ai_c170 : List ai_Bk := [([(.aload_n 0, [], 0), (.getfield 266, [11, 41, 0, 170], 0), (.istore_n 1, [], 0), (.aload_n 0, [], 0), (.getfield 100, [11, 43, 2, 140], 0), (.iload_n 1, [], 0), (.iconst 0, [], 0), (.iastore, [], 0), (.aload_n 0, [], 0), (.invokevirtual 269, [166, 1, 11, 0, 159], 0)], 1, [true, false, false, false, false, false]),
  ([(.iconst 1, [], 1), (.istore_n 2, [], 0)], 2, [true, true, false, false, false, false]),
  ([(.iload_n 2, [], 0), (.ifCond .eq 204, [28], 0), (.aload_n 0, [], 0), (.ldc 244, [10], 0), (.invokevirtual 246, [167, 2, 11, 0, 157], 0)], 3, [true, true, true, false, false, false]),
  ([(.ifCond .ne 27, [7], 0), (.aload_n 0, [], 0), (.ldc 252, [11], 0), (.invokevirtual 246, [167, 2, 11, 0, 157], 0)], 4, [true, true, false, false, false, false]),
  ([(.ifCond .ne 18, [7], 0), (.aload_n 0, [], 0), (.ldc 254, [12], 0), (.invokevirtual 246, [167, 2, 11, 0, 157], 0)], 5, [true, true, false, false, false, false]),
  ([(.ifCond .ne 9, [7], 0), (.aload_n 0, [], 0), (.iconst 1, [], 1), (.invokevirtual 255, [161, 2, 11, 0, 158], 0)], 6, [true, true, false, false, false, false]),
  ([(.athrow, [], 0)], 0, [false, false, false, false, false, false]),
  ([(.aload_n 0, [], 0), (.getfield 100, [11, 43, 2, 140], 0), (.iload_n 1, [], 0), (.iaload, [], 0), (.bipush 12, [], 12), (.if_icmp .ne 9, [9], 0), (.aload_n 0, [], 0), (.iconst 3, [], 3), (.invokevirtual 255, [161, 2, 11, 0, 158], 0)], 8, [true, true, false, false, false, false]),
  ([(.athrow, [], 0)], 0, [false, false, false, false, false, false]),
  ([(.bipush 12, [], 12), (.iload_n 1, [], 0), (.imul, [], 0), (.aload_n 0, [], 0), (.getfield 100, [11, 43, 2, 140], 0), (.iload_n 1, [], 0), (.iaload, [], 0), (.iadd, [], 0), (.istore_n 3, [], 0), (.aload_n 0, [], 0), (.getfield 103, [11, 44, 2, 141], 0), (.iload_n 3, [], 0), (.iconst 0, [], 0), (.iastore, [], 0), (.aload_n 0, [], 0), (.getfield 106, [11, 45, 2, 142], 0), (.iload_n 3, [], 0), (.iconst 0, [], 0), (.iastore, [], 0), (.aload_n 0, [], 0), (.ldc 244, [10], 0), (.invokevirtual 246, [167, 2, 11, 0, 157], 0)], 10, [true, true, false, false, false, false]),
  ([(.istore 4, [], 0)], 11, [true, true, false, true, false, false]),
  ([(.iload 4, [], 0), (.ifCond .eq 23, [15], 0), (.aload_n 0, [], 0), (.invokevirtual 269, [166, 1, 11, 0, 159], 0)], 12, [true, true, false, true, true, false]),
  ([(.aload_n 0, [], 0), (.iload_n 3, [], 0), (.invokevirtual 272, [171, 2, 11, 0, 160], 0)], 13, [true, true, false, true, false, false]),
  ([(.aload_n 0, [], 0), (.ldc 250, [13], 0), (.invokevirtual 246, [167, 2, 11, 0, 157], 0)], 14, [true, true, false, true, false, false]),
  ([(.istore 4, [], 0), (.goto (-22), [11], 0)], 0, [true, true, false, true, false, false]),
  ([(.aload_n 0, [], 0), (.ldc 252, [11], 0), (.invokevirtual 246, [167, 2, 11, 0, 157], 0)], 16, [true, true, false, true, false, false]),
  ([(.ifCond .ne 18, [19], 0), (.aload_n 0, [], 0), (.ldc 254, [12], 0), (.invokevirtual 246, [167, 2, 11, 0, 157], 0)], 17, [true, true, false, true, false, false]),
  ([(.ifCond .ne 9, [19], 0), (.aload_n 0, [], 0), (.iconst 1, [], 1), (.invokevirtual 255, [161, 2, 11, 0, 158], 0)], 18, [true, true, false, true, false, false]),
  ([(.athrow, [], 0)], 0, [false, false, false, false, false, false]),
  ([(.aload_n 0, [], 0), (.getfield 109, [11, 46, 2, 143], 0), (.iload_n 3, [], 0), (.aload_n 0, [], 0), (.ldc 254, [12], 0), (.invokevirtual 246, [167, 2, 11, 0, 157], 0)], 20, [true, true, false, true, false, false]),
  ([(.bastore, [], 0), (.iconst 1, [], 1), (.istore 5, [], 0)], 21, [true, true, false, true, false, false]),
  ([(.iload 5, [], 0), (.ifCond .eq 23, [25], 0), (.aload_n 0, [], 0), (.invokevirtual 269, [166, 1, 11, 0, 159], 0)], 22, [true, true, false, true, false, true]),
  ([(.aload_n 0, [], 0), (.iload_n 3, [], 0), (.invokevirtual 276, [172, 2, 11, 0, 161], 0)], 23, [true, true, false, true, false, false]),
  ([(.aload_n 0, [], 0), (.bipush 43, [], 43), (.invokevirtual 279, [168, 2, 11, 0, 162], 0)], 24, [true, true, false, true, false, false]),
  ([(.istore 5, [], 0), (.goto (-22), [21], 0)], 0, [true, true, false, true, false, false]),
  ([(.aload_n 0, [], 0), (.getfield 100, [11, 43, 2, 140], 0), (.iload_n 1, [], 0), (.dup2, [], 0), (.iaload, [], 0), (.iconst 1, [], 1), (.iadd, [], 0), (.iastore, [], 0), (.aload_n 0, [], 0), (.bipush 59, [], 59), (.invokevirtual 279, [168, 2, 11, 0, 162], 0)], 26, [true, true, false, false, false, false]),
  ([(.istore_n 2, [], 0), (.iload_n 2, [], 0), (.ifCond .eq 7, [27], 0), (.aload_n 0, [], 0), (.invokevirtual 269, [166, 1, 11, 0, 159], 0)], 27, [true, true, false, false, false, false]),
  ([(.goto (-202), [2], 0)], 0, [true, true, true, false, false, false]),
  ([(.aload_n 0, [], 0), (.getfield 221, [11, 36, 0, 166], 0), (.iconst 1, [], 1), (.if_icmp .eq 9, [30], 0), (.aload_n 0, [], 0), (.iconst 1, [], 1), (.invokevirtual 255, [161, 2, 11, 0, 158], 0)], 29, [true, false, false, false, false, false]),
  ([(.athrow, [], 0)], 0, [false, false, false, false, false, false]),
  ([(.return_, [], 0)], 0, [false, false, false, false, false, false])]
/-- CourtProgressModel.readTest(I)V -/
def ai_c171 : List ai_Bk := [([(.aload_n 0, [], 0), (.invokevirtual 282, [169, 1, 11, 0, 163], 0)], 1, [true, true, false, false]),
  ([(.istore_n 2, [], 0), (.aload_n 0, [], 0), (.getfield 103, [11, 44, 2, 141], 0), (.iload_n 1, [], 0), (.iaload, [], 0), (.iconst 4, [], 4), (.if_icmp .ne 9, [3], 0), (.aload_n 0, [], 0), (.iconst 3, [], 3), (.invokevirtual 255, [161, 2, 11, 0, 158], 0)], 2, [true, true, false, false]),
  ([(.athrow, [], 0)], 0, [false, false, false, false]),
  ([(.iconst 4, [], 4), (.iload_n 1, [], 0), (.imul, [], 0), (.aload_n 0, [], 0), (.getfield 103, [11, 44, 2, 141], 0), (.iload_n 1, [], 0), (.iaload, [], 0), (.iadd, [], 0), (.istore_n 3, [], 0), (.aload_n 0, [], 0), (.getfield 113, [11, 47, 2, 144], 0), (.iload_n 3, [], 0), (.iload_n 2, [], 0), (.iastore, [], 0), (.aload_n 0, [], 0), (.invokevirtual 269, [166, 1, 11, 0, 159], 0)], 4, [true, true, true, false]),
  ([(.aload_n 0, [], 0), (.bipush 60, [], 60), (.invokevirtual 279, [168, 2, 11, 0, 162], 0)], 5, [true, true, false, true]),
  ([(.ifCond .ne 27, [9], 0), (.aload_n 0, [], 0), (.bipush 62, [], 62), (.invokevirtual 279, [168, 2, 11, 0, 162], 0)], 6, [true, true, false, true]),
  ([(.ifCond .ne 18, [9], 0), (.aload_n 0, [], 0), (.bipush 61, [], 61), (.invokevirtual 279, [168, 2, 11, 0, 162], 0)], 7, [true, true, false, true]),
  ([(.ifCond .ne 9, [9], 0), (.aload_n 0, [], 0), (.iconst 1, [], 1), (.invokevirtual 255, [161, 2, 11, 0, 158], 0)], 8, [true, true, false, true]),
  ([(.athrow, [], 0)], 0, [false, false, false, false]),
  ([(.aload_n 0, [], 0), (.getfield 116, [11, 48, 2, 145], 0), (.iload_n 3, [], 0), (.aload_n 0, [], 0), (.getfield 224, [11, 38, 0, 167], 0), (.iastore, [], 0), (.aload_n 0, [], 0), (.invokevirtual 269, [166, 1, 11, 0, 159], 0)], 10, [true, true, false, true]),
  ([(.aload_n 0, [], 0), (.getfield 221, [11, 36, 0, 166], 0), (.iconst 3, [], 3), (.if_icmp .eq 9, [12], 0), (.aload_n 0, [], 0), (.iconst 1, [], 1), (.invokevirtual 255, [161, 2, 11, 0, 158], 0)], 11, [true, true, false, true]),
  ([(.athrow, [], 0)], 0, [false, false, false, false]),
  ([(.aload_n 0, [], 0), (.getfield 119, [11, 49, 2, 146], 0), (.iload_n 3, [], 0), (.aload_n 0, [], 0), (.getfield 237, [11, 39, 0, 169], 0), (.iastore, [], 0), (.aload_n 0, [], 0), (.invokevirtual 269, [166, 1, 11, 0, 159], 0)], 13, [true, true, false, true]),
  ([(.aload_n 0, [], 0), (.getfield 103, [11, 44, 2, 141], 0), (.iload_n 1, [], 0), (.dup2, [], 0), (.iaload, [], 0), (.iconst 1, [], 1), (.iadd, [], 0), (.iastore, [], 0), (.return_, [], 0)], 0, [true, true, false, false])]
/-- CourtProgressModel.readTerm(I)V -/
def ai_c172 : List ai_Bk := [([(.aload_n 0, [], 0), (.getfield 221, [11, 36, 0, 166], 0), (.iconst 3, [], 3), (.if_icmp .ne 7, [1], 0), (.iconst (-1), [], (-1)), (.goto 7, [2], 0)], 0, [true, true, false, false]),
  ([(.aload_n 0, [], 0), (.invokevirtual 282, [169, 1, 11, 0, 163], 0)], 2, [true, true, false, false]),
  ([(.istore_n 2, [], 0), (.aload_n 0, [], 0), (.getfield 106, [11, 45, 2, 142], 0), (.iload_n 1, [], 0), (.iaload, [], 0), (.iconst 4, [], 4), (.if_icmp .ne 9, [4], 0), (.aload_n 0, [], 0), (.iconst 3, [], 3), (.invokevirtual 255, [161, 2, 11, 0, 158], 0)], 3, [true, true, false, false]),
  ([(.athrow, [], 0)], 0, [false, false, false, false]),
  ([(.iconst 4, [], 4), (.iload_n 1, [], 0), (.imul, [], 0), (.aload_n 0, [], 0), (.getfield 106, [11, 45, 2, 142], 0), (.iload_n 1, [], 0), (.iaload, [], 0), (.iadd, [], 0), (.istore_n 3, [], 0), (.aload_n 0, [], 0), (.getfield 125, [11, 51, 2, 148], 0), (.iload_n 3, [], 0), (.aload_n 0, [], 0), (.getfield 221, [11, 36, 0, 166], 0), (.iconst 3, [], 3), (.if_icmp .ne 10, [5], 0), (.aload_n 0, [], 0), (.getfield 237, [11, 39, 0, 169], 0), (.goto 4, [6], 0)], 0, [true, true, true, false]),
  ([(.iconst 1, [], 1)], 6, [true, true, true, true]),
  ([(.iastore, [], 0), (.aload_n 0, [], 0), (.getfield 122, [11, 50, 2, 147], 0), (.iload_n 3, [], 0), (.iload_n 2, [], 0), (.iastore, [], 0), (.aload_n 0, [], 0), (.invokevirtual 269, [166, 1, 11, 0, 159], 0)], 7, [true, true, true, true]),
  ([(.iload_n 2, [], 0), (.iconst (-1), [], (-1)), (.if_icmp .ne 30, [11], 0), (.aload_n 0, [], 0), (.bipush 42, [], 42), (.invokevirtual 279, [168, 2, 11, 0, 162], 0)], 8, [true, true, true, true]),
  ([(.ifCond .eq 21, [11], 0), (.aload_n 0, [], 0), (.invokevirtual 269, [166, 1, 11, 0, 159], 0)], 9, [true, true, false, true]),
  ([(.aload_n 0, [], 0), (.getfield 122, [11, 50, 2, 147], 0), (.iload_n 3, [], 0), (.aload_n 0, [], 0), (.invokevirtual 282, [169, 1, 11, 0, 163], 0)], 10, [true, true, false, true]),
  ([(.iastore, [], 0), (.aload_n 0, [], 0), (.invokevirtual 269, [166, 1, 11, 0, 159], 0)], 11, [true, true, false, false]),
  ([(.aload_n 0, [], 0), (.getfield 106, [11, 45, 2, 142], 0), (.iload_n 1, [], 0), (.dup2, [], 0), (.iaload, [], 0), (.iconst 1, [], 1), (.iadd, [], 0), (.iastore, [], 0), (.return_, [], 0)], 0, [true, true, false, false])]
/-- CourtProgressModel.feed(IIIII)I -/
def ai_c173 : List ai_Bk := [([(.aload_n 0, [], 0), (.iconst 0, [], 0), (.putfield 1, [11, 0, 0, 159], 0), (.aload_n 0, [], 0), (.getfield 285, [11, 33, 0, 171], 0), (.bipush 20, [], 20), (.iadd, [], 0), (.sipush 400, [], 400), (.if_icmp .le 5, [1], 0), (.iconst (-1), [], (-1)), (.ireturn, [0], 0)], 0, [true, true, true, true, true, true, false, false]),
  ([(.iconst 0, [], 0), (.istore 6, [], 0)], 2, [true, true, true, true, true, true, false, false]),
  ([(.iload 6, [], 0), (.bipush 20, [], 20), (.if_icmp .ge 90, [8], 0), (.iload 6, [], 0), (.iconst 4, [], 4), (.if_icmp .ge 7, [3], 0), (.iload_n 1, [], 0), (.goto 39, [7], 0)], 0, [true, true, true, true, true, true, true, false]),
  ([(.iload 6, [], 0), (.bipush 8, [], 8), (.if_icmp .ge 7, [4], 0), (.iload_n 2, [], 0), (.goto 28, [7], 0)], 0, [true, true, true, true, true, true, true, false]),
  ([(.iload 6, [], 0), (.bipush 12, [], 12), (.if_icmp .ge 7, [5], 0), (.iload_n 3, [], 0), (.goto 17, [7], 0)], 0, [true, true, true, true, true, true, true, false]),
  ([(.iload 6, [], 0), (.bipush 16, [], 16), (.if_icmp .ge 8, [6], 0), (.iload 4, [], 0), (.goto 5, [7], 0)], 0, [true, true, true, true, true, true, true, false]),
  ([(.iload 5, [], 0)], 7, [true, true, true, true, true, true, true, false]),
  ([(.istore 7, [], 0), (.aload_n 0, [], 0), (.getfield 93, [11, 32, 2, 138], 0), (.aload_n 0, [], 0), (.getfield 285, [11, 33, 0, 171], 0), (.iload 7, [], 0), (.bipush 24, [], 24), (.bipush 8, [], 8), (.iload 6, [], 0), (.iconst 4, [], 4), (.irem, [], 0), (.imul, [], 0), (.isub, [], 0), (.ishr, [], 0), (.i2b, [], 0), (.bastore, [], 0), (.aload_n 0, [], 0), (.dup, [], 0), (.getfield 285, [11, 33, 0, 171], 0), (.iconst 1, [], 1), (.iadd, [], 0), (.putfield 285, [11, 33, 0, 171], 0), (.iinc 6 1, [], 1), (.goto (-91), [2], 0)], 0, [true, true, true, true, true, true, true, false]),
  ([(.aload_n 0, [], 0), (.getfield 285, [11, 33, 0, 171], 0), (.ireturn, [0], 0)], 0, [true, false, false, false, false, false, false, false])]
/-- CourtProgressModel.ordinance(II)I -/
def ai_c174 : List ai_Bk := [([(.aload_n 0, [], 0), (.iconst 0, [], 0), (.putfield 1, [11, 0, 0, 159], 0), (.iload_n 1, [], 0), (.invokestatic 185, [152, 1, 999, 0, 150], 0)], 1, [true, true, true, false]),
  ([(.ifCond .eq 15, [2], 0), (.iload_n 2, [], 0), (.ifCond .lt 11, [2], 0), (.iload_n 2, [], 0), (.aload_n 0, [], 0), (.getfield 285, [11, 33, 0, 171], 0), (.if_icmp .le 9, [4], 0)], 2, [true, true, true, false]),
  ([(.aload_n 0, [], 0), (.iconst 2, [], 2), (.invokevirtual 163, [144, 2, 11, 0, 144], 0)], 3, [true, false, false, false]),
  ([(.ireturn, [0], 0)], 0, [false, false, false, false]),
  ([(.aload_n 0, [], 0), (.iload_n 2, [], 0), (.putfield 200, [11, 34, 0, 164], 0), (.aload_n 0, [], 0), (.iconst 0, [], 0), (.putfield 285, [11, 33, 0, 171], 0), (.aload_n 0, [], 0), (.iconst 0, [], 0), (.putfield 215, [11, 35, 0, 165], 0), (.aload_n 0, [], 0), (.iconst 0, [], 0), (.putfield 288, [11, 3, 0, 172], 0), (.aload_n 0, [], 0), (.invokevirtual 291, [170, 1, 11, 6, 164], 0)], 5, [true, true, true, false]),
  ([(.goto 27, [7], 0)], 0, [true, true, false, false]),
  ([(.astore_n 3, [], 0), (.aload_n 0, [], 0), (.aload_n 3, [], 0), (.getfield 193, [10, 6, 0, 161], 0), (.putfield 288, [11, 3, 0, 172], 0), (.aload_n 0, [], 0), (.iconst 4, [], 4), (.putfield 7, [11, 1, 0, 113], 0), (.aload_n 0, [], 0), (.aload_n 3, [], 0), (.getfield 199, [10, 7, 0, 163], 0), (.putfield 10, [11, 2, 0, 114], 0), (.iconst (-1), [], (-1)), (.ireturn, [0], 0)], 0, [true, false, false, false]),
  ([(.aload_n 0, [], 0), (.getfield 266, [11, 41, 0, 170], 0), (.bipush 10, [], 10), (.if_icmp .ne 9, [9], 0), (.aload_n 0, [], 0), (.iconst 3, [], 3), (.invokevirtual 163, [144, 2, 11, 0, 144], 0)], 8, [true, true, false, false]),
  ([(.ireturn, [0], 0)], 0, [false, false, false, false]),
  ([(.aload_n 0, [], 0), (.getfield 97, [11, 42, 2, 139], 0), (.aload_n 0, [], 0), (.getfield 266, [11, 41, 0, 170], 0), (.iload_n 1, [], 0), (.iastore, [], 0), (.aload_n 0, [], 0), (.dup, [], 0), (.getfield 266, [11, 41, 0, 170], 0), (.iconst 1, [], 1), (.iadd, [], 0), (.putfield 266, [11, 41, 0, 170], 0), (.aload_n 0, [], 0), (.aload_n 0, [], 0), (.getfield 266, [11, 41, 0, 170], 0), (.iconst 1, [], 1), (.isub, [], 0), (.invokevirtual 167, [146, 2, 11, 0, 145], 0)], 10, [true, true, false, false]),
  ([(.ireturn, [0], 0)], 0, [false, false, false, false])]
/-- CourtProgressModel.fault()I -/
def ai_c175 : List ai_Bk := [([(.aload_n 0, [], 0), (.iconst 0, [], 0), (.putfield 1, [11, 0, 0, 159], 0), (.aload_n 0, [], 0), (.getfield 288, [11, 3, 0, 172], 0), (.ireturn, [0], 0)], 0, [true])]
/-- CourtProgressModel.where()I -/
def ai_c176 : List ai_Bk := [([(.aload_n 0, [], 0), (.iconst 0, [], 0), (.putfield 1, [11, 0, 0, 159], 0), (.aload_n 0, [], 0), (.getfield 10, [11, 2, 0, 114], 0), (.ireturn, [0], 0)], 0, [true])]
/-- CourtProgressModel.forceOf(I)I -/
def ai_c177 : List ai_Bk := [([(.bipush (-2), [], (-2)), (.istore_n 2, [], 0), (.iconst 0, [], 0), (.istore_n 3, [], 0)], 1, [true, true, false, false]),
  ([(.iload_n 3, [], 0), (.aload_n 0, [], 0), (.getfield 266, [11, 41, 0, 170], 0), (.if_icmp .ge 42, [4], 0), (.aload_n 0, [], 0), (.getfield 97, [11, 42, 2, 139], 0), (.iload_n 3, [], 0), (.iaload, [], 0), (.iload_n 1, [], 0), (.if_icmp .gt 26, [3], 0), (.iload_n 2, [], 0), (.bipush (-2), [], (-2)), (.if_icmp .eq 18, [2], 0), (.aload_n 0, [], 0), (.getfield 97, [11, 42, 2, 139], 0), (.iload_n 3, [], 0), (.iaload, [], 0), (.aload_n 0, [], 0), (.getfield 97, [11, 42, 2, 139], 0), (.iload_n 2, [], 0), (.iaload, [], 0), (.if_icmp .lt 5, [3], 0)], 2, [true, true, true, true]),
  ([(.iload_n 3, [], 0), (.istore_n 2, [], 0)], 3, [true, true, false, true]),
  ([(.iinc 3 1, [], 1), (.goto (-44), [1], 0)], 0, [true, true, true, true]),
  ([(.iload_n 2, [], 0), (.ireturn, [0], 0)], 0, [false, false, true, false])]
/-- CourtProgressModel.force(I)I -/
def ai_c178 : List ai_Bk := [([(.aload_n 0, [], 0), (.iconst 0, [], 0), (.putfield 1, [11, 0, 0, 159], 0), (.iload_n 1, [], 0), (.invokestatic 185, [152, 1, 999, 0, 150], 0)], 1, [true, true]),
  ([(.ifCond .eq 11, [3], 0), (.aload_n 0, [], 0), (.iload_n 1, [], 0), (.invokevirtual 294, [177, 2, 11, 0, 165], 0)], 2, [true, true]),
  ([(.goto 4, [4], 0)], 0, [false, false]),
  ([(.iconst (-1), [], (-1))], 4, [false, false]),
  ([(.ireturn, [0], 0)], 0, [false, false])]
/-- CourtProgressModel.valueOf(III)I -/
def ai_c179 : List ai_Bk := [([(.iload_n 1, [], 0), (.tableswitch 65 0 4 #[35, 42, 49, 56, 58], [6, 1, 2, 3, 4, 5], 0)], 0, [true, true, true, true]),
  ([(.aload_n 0, [], 0), (.getfield 22, [11, 10, 2, 116], 0), (.iload_n 2, [], 0), (.iaload, [], 0), (.ireturn, [0], 0)], 0, [true, false, true, false]),
  ([(.aload_n 0, [], 0), (.getfield 26, [11, 11, 2, 117], 0), (.iload_n 2, [], 0), (.iaload, [], 0), (.ireturn, [0], 0)], 0, [true, false, true, false]),
  ([(.aload_n 0, [], 0), (.getfield 29, [11, 12, 2, 118], 0), (.iload_n 2, [], 0), (.iaload, [], 0), (.ireturn, [0], 0)], 0, [true, false, true, false]),
  ([(.iload_n 3, [], 0), (.ireturn, [0], 0)], 0, [false, false, false, true]),
  ([(.aload_n 0, [], 0), (.getfield 65, [11, 24, 2, 130], 0), (.iload_n 3, [], 0), (.iaload, [], 0), (.ireturn, [0], 0)], 0, [true, false, false, true]),
  ([(.aload_n 0, [], 0), (.getfield 68, [11, 25, 2, 131], 0), (.iload_n 3, [], 0), (.iaload, [], 0), (.iconst (-1), [], (-1)), (.if_icmp .ne 7, [7], 0), (.iconst 0, [], 0), (.goto 4, [8], 0)], 0, [true, false, false, true]),
  ([(.iconst 1, [], 1)], 8, [false, false, false, false]),
  ([(.ireturn, [0], 0)], 0, [false, false, false, false])]
/-- CourtProgressModel.eatsOf(IIZ)I -/
def ai_c180 : List ai_Bk := [([(.aload_n 0, [], 0), (.iload_n 2, [], 0), (.invokevirtual 294, [177, 2, 11, 0, 165], 0)], 1, [true, true, true, true, false, false, false, false, false]),
  ([(.istore 4, [], 0), (.bipush 12, [], 12), (.iload 4, [], 0), (.iconst 0, [], 0), (.invokestatic 297, [211, 2, 999, 0, 166], 0)], 2, [true, true, true, true, false, false, false, false, false]),
  ([(.imul, [], 0), (.istore 5, [], 0)], 3, [true, true, true, true, true, false, false, false, false]),
  ([(.iload 4, [], 0), (.ifCond .lt 251, [20], 0), (.iload 5, [], 0), (.bipush 12, [], 12), (.iload 4, [], 0), (.imul, [], 0), (.aload_n 0, [], 0), (.getfield 100, [11, 43, 2, 140], 0), (.iload 4, [], 0), (.iaload, [], 0), (.iadd, [], 0), (.if_icmp .ge 233, [20], 0), (.aload_n 0, [], 0), (.getfield 109, [11, 46, 2, 143], 0), (.iload 5, [], 0), (.baload, [], 0), (.iload_n 3, [], 0), (.if_icmp .ne 7, [4], 0), (.iconst 1, [], 1), (.goto 4, [5], 0)], 0, [true, true, true, true, true, true, false, false, false]),
  ([(.iconst 0, [], 0)], 5, [true, true, true, true, true, true, false, false, false]),
  ([(.istore 6, [], 0), (.iconst 4, [], 4), (.iload 5, [], 0), (.imul, [], 0), (.istore 7, [], 0)], 6, [true, true, true, true, true, true, false, false, false]),
  ([(.iload 7, [], 0), (.iconst 4, [], 4), (.iload 5, [], 0), (.imul, [], 0), (.aload_n 0, [], 0), (.getfield 103, [11, 44, 2, 141], 0), (.iload 5, [], 0), (.iaload, [], 0), (.iadd, [], 0), (.if_icmp .ge 102, [13], 0), (.aload_n 0, [], 0), (.aload_n 0, [], 0), (.getfield 113, [11, 47, 2, 144], 0), (.iload 7, [], 0), (.iaload, [], 0), (.iload_n 1, [], 0), (.iload_n 2, [], 0), (.invokevirtual 303, [179, 4, 11, 0, 167], 0)], 7, [true, true, true, true, true, true, true, true, false]),
  ([(.istore 8, [], 0), (.iload 6, [], 0), (.ifCond .eq 73, [11], 0), (.aload_n 0, [], 0), (.getfield 116, [11, 48, 2, 145], 0), (.iload 7, [], 0), (.iaload, [], 0), (.bipush 60, [], 60), (.if_icmp .ne 18, [8], 0), (.iload 8, [], 0), (.aload_n 0, [], 0), (.getfield 119, [11, 49, 2, 146], 0), (.iload 7, [], 0), (.iaload, [], 0), (.if_icmp .ge 49, [11], 0), (.goto 42, [10], 0)], 0, [true, true, true, true, true, true, true, true, false]),
  ([(.aload_n 0, [], 0), (.getfield 116, [11, 48, 2, 145], 0), (.iload 7, [], 0), (.iaload, [], 0), (.bipush 62, [], 62), (.if_icmp .ne 18, [9], 0), (.iload 8, [], 0), (.aload_n 0, [], 0), (.getfield 119, [11, 49, 2, 146], 0), (.iload 7, [], 0), (.iaload, [], 0), (.if_icmp .le 22, [11], 0), (.goto 15, [10], 0)], 0, [true, true, true, true, true, true, false, true, true]),
  ([(.iload 8, [], 0), (.aload_n 0, [], 0), (.getfield 119, [11, 49, 2, 146], 0), (.iload 7, [], 0), (.iaload, [], 0), (.if_icmp .ne 7, [11], 0)], 10, [true, true, true, true, true, true, false, true, true]),
  ([(.iconst 1, [], 1), (.goto 4, [12], 0)], 0, [true, true, true, true, true, true, false, true, false]),
  ([(.iconst 0, [], 0)], 12, [true, true, true, true, true, true, false, true, false]),
  ([(.istore 6, [], 0), (.iinc 7 1, [], 1), (.goto (-113), [6], 0)], 0, [true, true, true, true, true, true, false, true, false]),
  ([(.iload 6, [], 0), (.ifCond .ne 6, [14], 0), (.goto 79, [19], 0)], 0, [true, true, true, true, true, true, true, false, false]),
  ([(.iconst 0, [], 0), (.istore 7, [], 0), (.iconst 4, [], 4), (.iload 5, [], 0), (.imul, [], 0), (.istore 8, [], 0)], 15, [true, true, true, false, false, true, false, false, false]),
  ([(.iload 8, [], 0), (.iconst 4, [], 4), (.iload 5, [], 0), (.imul, [], 0), (.aload_n 0, [], 0), (.getfield 106, [11, 45, 2, 142], 0), (.iload 5, [], 0), (.iaload, [], 0), (.iadd, [], 0), (.if_icmp .ge 50, [18], 0), (.iload 7, [], 0), (.aload_n 0, [], 0), (.getfield 125, [11, 51, 2, 148], 0), (.iload 8, [], 0), (.iaload, [], 0), (.aload_n 0, [], 0), (.getfield 122, [11, 50, 2, 147], 0), (.iload 8, [], 0), (.iaload, [], 0), (.iconst (-1), [], (-1)), (.if_icmp .ne 7, [16], 0), (.iconst 1, [], 1), (.goto 16, [17], 0)], 0, [true, true, true, false, false, true, false, true, true]),
  ([(.aload_n 0, [], 0), (.aload_n 0, [], 0), (.getfield 122, [11, 50, 2, 147], 0), (.iload 8, [], 0), (.iaload, [], 0), (.iload_n 1, [], 0), (.iload_n 2, [], 0), (.invokevirtual 303, [179, 4, 11, 0, 167], 0)], 17, [true, true, true, false, false, true, false, false, true]),
  ([(.imul, [], 0), (.iadd, [], 0), (.istore 7, [], 0), (.iinc 8 1, [], 1), (.goto (-61), [15], 0)], 0, [true, true, true, false, false, true, false, false, true]),
  ([(.iload 7, [], 0), (.ireturn, [0], 0)], 0, [false, false, false, false, false, false, false, true, false]),
  ([(.iinc 5 1, [], 1), (.goto (-250), [3], 0)], 0, [true, true, true, true, true, true, false, false, false]),
  ([(.iconst 0, [], 0), (.ireturn, [0], 0)], 0, [false, false, false, false, false, false, false, false, false])]
/-- CourtProgressModel.eats(IIZ)I -/
def ai_c181 : List ai_Bk := [([(.aload_n 0, [], 0), (.iconst 0, [], 0), (.putfield 1, [11, 0, 0, 159], 0), (.aload_n 0, [], 0), (.iload_n 1, [], 0), (.invokevirtual 170, [150, 2, 11, 0, 146], 0)], 1, [true, true, true, true]),
  ([(.ifCond .eq 20, [4], 0), (.iload_n 2, [], 0), (.invokestatic 185, [152, 1, 999, 0, 150], 0)], 2, [true, true, true, true]),
  ([(.ifCond .eq 13, [4], 0), (.aload_n 0, [], 0), (.iload_n 1, [], 0), (.iload_n 2, [], 0), (.iload_n 3, [], 0), (.invokevirtual 307, [180, 4, 11, 0, 168], 0)], 3, [true, true, true, true]),
  ([(.goto 4, [5], 0)], 0, [false, false, false, false]),
  ([(.iconst (-1), [], (-1))], 5, [false, false, false, false]),
  ([(.ireturn, [0], 0)], 0, [false, false, false, false])]
/-- CourtProgressModel.needOf(I)I -/
def ai_c182 : List ai_Bk := [([(.lconst 0, [], 0), (.lstore_n 2, [], 0), (.iconst 0, [], 0), (.istore 4, [], 0)], 1, [true, true, false, false, false]),
  ([(.iload 4, [], 0), (.aload_n 0, [], 0), (.getfield 153, [11, 4, 0, 157], 0), (.if_icmp .ge 49, [4], 0), (.lload_n 2, [], 0), (.aload_n 0, [], 0), (.getfield 26, [11, 11, 2, 117], 0), (.iload 4, [], 0), (.iaload, [], 0), (.i2l, [], 0), (.aload_n 0, [], 0), (.iload 4, [], 0), (.iload_n 1, [], 0), (.iconst 0, [], 0), (.invokevirtual 307, [180, 4, 11, 0, 168], 0)], 2, [true, true, true, false, true]),
  ([(.i2l, [], 0), (.lmul, [], 0), (.aload_n 0, [], 0), (.getfield 29, [11, 12, 2, 118], 0), (.iload 4, [], 0), (.iaload, [], 0), (.i2l, [], 0), (.aload_n 0, [], 0), (.iload 4, [], 0), (.iload_n 1, [], 0), (.iconst 1, [], 1), (.invokevirtual 307, [180, 4, 11, 0, 168], 0)], 3, [true, true, false, false, true]),
  ([(.i2l, [], 0), (.lmul, [], 0), (.ladd, [], 0), (.ladd, [], 0), (.lstore_n 2, [], 0), (.iinc 4 1, [], 1), (.goto (-52), [1], 0)], 0, [true, true, false, false, true]),
  ([(.lload_n 2, [], 0), (.ldc2_w 191, [], 1000000), (.invokestatic 311, [213, 2, 999, 0, 169], 0)], 5, [false, false, true, false, false]),
  ([(.l2i, [], 0), (.ireturn, [0], 0)], 0, [false, false, false, false, false])]
/-- CourtProgressModel.need(I)I -/
def ai_c183 : List ai_Bk := [([(.aload_n 0, [], 0), (.iconst 0, [], 0), (.putfield 1, [11, 0, 0, 159], 0), (.iload_n 1, [], 0), (.invokestatic 185, [152, 1, 999, 0, 150], 0)], 1, [true, true]),
  ([(.ifCond .eq 11, [3], 0), (.aload_n 0, [], 0), (.iload_n 1, [], 0), (.invokevirtual 315, [182, 2, 11, 0, 170], 0)], 2, [true, true]),
  ([(.goto 4, [4], 0)], 0, [false, false]),
  ([(.iconst (-1), [], (-1))], 4, [false, false]),
  ([(.ireturn, [0], 0)], 0, [false, false])]
/-- CourtProgressModel.mayHave(IIIZ)Z -/
def ai_c184 : List ai_Bk := [([(.iconst 1, [], 1), (.istore 5, [], 0), (.iconst 0, [], 0), (.istore 6, [], 0)], 1, [true, true, true, true, true, false, false, false, false]),
  ([(.iload 6, [], 0), (.iload_n 2, [], 0), (.if_icmp .ge 174, [11], 0), (.bipush 10, [], 10), (.iload_n 1, [], 0), (.imul, [], 0), (.aload_n 0, [], 0), (.getfield 128, [11, 53, 2, 149], 0), (.iload 6, [], 0), (.iaload, [], 0), (.iadd, [], 0), (.istore 7, [], 0), (.bipush 10, [], 10), (.iload_n 1, [], 0), (.imul, [], 0), (.iload_n 3, [], 0), (.iadd, [], 0), (.istore 8, [], 0), (.iload 5, [], 0), (.ifCond .eq 49, [3], 0), (.aload_n 0, [], 0), (.getfield 128, [11, 53, 2, 149], 0), (.iload 6, [], 0), (.iaload, [], 0), (.iload_n 3, [], 0), (.if_icmp .eq 38, [3], 0), (.aload_n 0, [], 0), (.getfield 32, [11, 13, 2, 119], 0), (.iload_n 2, [], 0), (.iaload, [], 0), (.iload 6, [], 0), (.ishr, [], 0), (.iconst 1, [], 1), (.iand, [], 0), (.ifCond .eq 20, [2], 0), (.aload_n 0, [], 0), (.getfield 56, [11, 21, 2, 127], 0), (.iload 7, [], 0), (.iaload, [], 0), (.aload_n 0, [], 0), (.getfield 56, [11, 21, 2, 127], 0), (.iload 8, [], 0), (.iaload, [], 0), (.if_icmp .eq 7, [3], 0)], 2, [true, true, true, true, true, true, true, false, false]),
  ([(.iconst 1, [], 1), (.goto 4, [4], 0)], 0, [true, true, true, true, true, false, true, true, true]),
  ([(.iconst 0, [], 0)], 4, [true, true, true, true, true, false, true, true, true]),
  ([(.istore 5, [], 0), (.iload 4, [], 0), (.ifCond .eq 87, [10], 0), (.aload_n 0, [], 0), (.getfield 22, [11, 10, 2, 116], 0), (.iload 6, [], 0), (.iaload, [], 0), (.aload_n 0, [], 0), (.getfield 22, [11, 10, 2, 116], 0), (.iload_n 2, [], 0), (.iaload, [], 0), (.if_icmp .ne 6, [5], 0), (.goto 68, [10], 0)], 0, [true, true, true, true, true, false, true, true, true]),
  ([(.iload 5, [], 0), (.ifCond .eq 60, [8], 0), (.aload_n 0, [], 0), (.getfield 22, [11, 10, 2, 116], 0), (.iload 6, [], 0), (.iaload, [], 0), (.aload_n 0, [], 0), (.getfield 22, [11, 10, 2, 116], 0), (.iload_n 2, [], 0), (.iaload, [], 0), (.if_icmp .le 23, [6], 0), (.aload_n 0, [], 0), (.getfield 53, [11, 20, 2, 126], 0), (.iload 8, [], 0), (.iaload, [], 0), (.aload_n 0, [], 0), (.getfield 53, [11, 20, 2, 126], 0), (.iload 7, [], 0), (.iaload, [], 0), (.if_icmp .gt 27, [8], 0), (.goto 20, [7], 0)], 0, [true, true, true, true, true, true, true, true, true]),
  ([(.aload_n 0, [], 0), (.getfield 53, [11, 20, 2, 126], 0), (.iload 7, [], 0), (.iaload, [], 0), (.aload_n 0, [], 0), (.getfield 53, [11, 20, 2, 126], 0), (.iload 8, [], 0), (.iaload, [], 0), (.if_icmp .gt 7, [8], 0)], 7, [true, true, true, true, true, false, true, true, true]),
  ([(.iconst 1, [], 1), (.goto 4, [9], 0)], 0, [true, true, true, true, true, false, true, false, false]),
  ([(.iconst 0, [], 0)], 9, [true, true, true, true, true, false, true, false, false]),
  ([(.istore 5, [], 0)], 10, [true, true, true, true, true, false, true, false, false]),
  ([(.iinc 6 1, [], 1), (.goto (-174), [1], 0)], 0, [true, true, true, true, true, true, true, false, false]),
  ([(.iload 5, [], 0), (.ireturn, [1], 0)], 0, [false, false, false, false, false, true, false, false, false])]
/-- CourtProgressModel.lodges(IIIZZ)Z -/
def ai_c185 : List ai_Bk := [([(.iload_n 2, [], 0), (.aload_n 0, [], 0), (.getfield 153, [11, 4, 0, 157], 0), (.if_icmp .ne 42, [3], 0), (.aload_n 0, [], 0), (.iload_n 3, [], 0), (.putfield 318, [11, 52, 0, 173], 0), (.iconst 0, [], 0), (.istore 6, [], 0)], 1, [true, true, true, true, true, true, false, false, false]),
  ([(.iload 6, [], 0), (.aload_n 0, [], 0), (.getfield 153, [11, 4, 0, 157], 0), (.if_icmp .ge 23, [2], 0), (.aload_n 0, [], 0), (.getfield 131, [11, 54, 2, 150], 0), (.iload 6, [], 0), (.aload_n 0, [], 0), (.getfield 128, [11, 53, 2, 149], 0), (.iload 6, [], 0), (.iaload, [], 0), (.iastore, [], 0), (.iinc 6 1, [], 1), (.goto (-26), [1], 0)], 0, [true, false, false, false, false, false, true, false, false]),
  ([(.iconst 1, [], 1), (.ireturn, [1], 0)], 0, [false, false, false, false, false, false, false, false, false]),
  ([(.iconst 0, [], 0), (.istore 6, [], 0), (.iconst 0, [], 0), (.istore 7, [], 0)], 4, [true, true, true, true, true, true, false, false, false]),
  ([(.iload 7, [], 0), (.aload_n 0, [], 0), (.getfield 50, [11, 19, 2, 125], 0), (.iload_n 1, [], 0), (.iaload, [], 0), (.if_icmp .ge 118, [14], 0), (.iload 5, [], 0), (.ifCond .eq 8, [5], 0), (.iload 6, [], 0), (.ifCond .ne 108, [14], 0)], 5, [true, true, true, true, true, true, true, true, false]),
  ([(.iload_n 3, [], 0), (.aload_n 0, [], 0), (.getfield 26, [11, 11, 2, 117], 0), (.iload_n 2, [], 0), (.iaload, [], 0), (.aload_n 0, [], 0), (.getfield 59, [11, 22, 2, 128], 0), (.bipush 10, [], 10), (.iload_n 1, [], 0), (.imul, [], 0), (.iload 7, [], 0), (.iadd, [], 0), (.iaload, [], 0), (.imul, [], 0), (.iadd, [], 0), (.istore 8, [], 0), (.iload 5, [], 0), (.ifCond .ne 21, [6], 0), (.iload 8, [], 0), (.aload_n 0, [], 0), (.getfield 137, [11, 56, 2, 152], 0), (.iload_n 2, [], 0), (.iconst 1, [], 1), (.iadd, [], 0), (.iaload, [], 0), (.iadd, [], 0), (.aload_n 0, [], 0), (.getfield 318, [11, 52, 0, 173], 0), (.if_icmp .ge 56, [13], 0)], 6, [true, true, true, true, true, true, true, true, false]),
  ([(.aload_n 0, [], 0), (.iload_n 1, [], 0), (.iload_n 2, [], 0), (.iload 7, [], 0), (.iload 4, [], 0), (.invokevirtual 321, [184, 5, 11, 0, 171], 0)], 7, [true, true, true, true, true, true, true, true, true]),
  ([(.ifCond .ne 6, [8], 0), (.goto 40, [13], 0)], 0, [true, true, true, true, true, true, true, true, true]),
  ([(.aload_n 0, [], 0), (.getfield 128, [11, 53, 2, 149], 0), (.iload_n 2, [], 0), (.iload 7, [], 0), (.iastore, [], 0), (.aload_n 0, [], 0), (.iload_n 1, [], 0), (.iload_n 2, [], 0), (.iconst 1, [], 1), (.iadd, [], 0), (.iload 8, [], 0), (.iload 4, [], 0), (.iload 5, [], 0), (.invokevirtual 325, [185, 6, 11, 0, 172], 0)], 9, [true, true, true, true, true, true, true, true, true]),
  ([(.ifCond .ne 8, [10], 0), (.iload 6, [], 0), (.ifCond .eq 7, [11], 0)], 10, [true, true, true, true, true, true, true, true, false]),
  ([(.iconst 1, [], 1), (.goto 4, [12], 0)], 0, [true, true, true, true, true, true, false, true, false]),
  ([(.iconst 0, [], 0)], 12, [true, true, true, true, true, true, false, true, false]),
  ([(.istore 6, [], 0)], 13, [true, true, true, true, true, true, false, true, false]),
  ([(.iinc 7 1, [], 1), (.goto (-123), [4], 0)], 0, [true, true, true, true, true, true, true, true, false]),
  ([(.iload 6, [], 0), (.ireturn, [1], 0)], 0, [false, false, false, false, false, false, true, false, false])]
/-- CourtProgressModel.spares(I)V -/
def ai_c186 : List ai_Bk := [([(.bipush 99, [], 99), (.istore_n 2, [], 0), (.iconst 0, [], 0), (.istore_n 3, [], 0)], 1, [true, true, false, false]),
  ([(.iload_n 3, [], 0), (.aload_n 0, [], 0), (.getfield 50, [11, 19, 2, 125], 0), (.iload_n 1, [], 0), (.iaload, [], 0), (.if_icmp .ge 25, [3], 0), (.iload_n 2, [], 0), (.aload_n 0, [], 0), (.getfield 59, [11, 22, 2, 128], 0), (.bipush 10, [], 10), (.iload_n 1, [], 0), (.imul, [], 0), (.iload_n 3, [], 0), (.iadd, [], 0), (.iaload, [], 0), (.invokestatic 329, [212, 2, 999, 0, 173], 0)], 2, [true, true, true, true]),
  ([(.istore_n 2, [], 0), (.iinc 3 1, [], 1), (.goto (-29), [1], 0)], 0, [true, true, false, true]),
  ([(.aload_n 0, [], 0), (.getfield 137, [11, 56, 2, 152], 0), (.aload_n 0, [], 0), (.getfield 153, [11, 4, 0, 157], 0), (.iconst 0, [], 0), (.iastore, [], 0), (.aload_n 0, [], 0), (.getfield 153, [11, 4, 0, 157], 0), (.iconst 1, [], 1), (.isub, [], 0), (.istore_n 3, [], 0)], 4, [true, false, true, false]),
  ([(.iload_n 3, [], 0), (.ifCond .lt 32, [5], 0), (.aload_n 0, [], 0), (.getfield 137, [11, 56, 2, 152], 0), (.iload_n 3, [], 0), (.aload_n 0, [], 0), (.getfield 137, [11, 56, 2, 152], 0), (.iload_n 3, [], 0), (.iconst 1, [], 1), (.iadd, [], 0), (.iaload, [], 0), (.aload_n 0, [], 0), (.getfield 26, [11, 11, 2, 117], 0), (.iload_n 3, [], 0), (.iaload, [], 0), (.iload_n 2, [], 0), (.imul, [], 0), (.iadd, [], 0), (.iastore, [], 0), (.iinc 3 (-1), [], (-1)), (.goto (-30), [4], 0)], 0, [true, false, true, true]),
  ([(.return_, [], 0)], 0, [false, false, false, false])]
/-- CourtProgressModel.whyOf(I)I -/
def ai_c187 : List ai_Bk := [([(.iconst 0, [], 0), (.istore_n 2, [], 0), (.iconst 0, [], 0), (.istore_n 3, [], 0)], 1, [true, true, false, false]),
  ([(.iload_n 3, [], 0), (.aload_n 0, [], 0), (.getfield 153, [11, 4, 0, 157], 0), (.if_icmp .ge 18, [2], 0), (.iload_n 2, [], 0), (.aload_n 0, [], 0), (.getfield 29, [11, 12, 2, 118], 0), (.iload_n 3, [], 0), (.iaload, [], 0), (.iadd, [], 0), (.istore_n 2, [], 0), (.iinc 3 1, [], 1), (.goto (-20), [1], 0)], 0, [true, true, true, true]),
  ([(.aload_n 0, [], 0), (.getfield 50, [11, 19, 2, 125], 0), (.iload_n 1, [], 0), (.iaload, [], 0), (.aload_n 0, [], 0), (.getfield 153, [11, 4, 0, 157], 0), (.if_icmp .ge 5, [3], 0), (.iconst 1, [], 1), (.ireturn, [0], 0)], 0, [true, true, true, false]),
  ([(.iload_n 2, [], 0), (.aload_n 0, [], 0), (.getfield 41, [11, 16, 2, 122], 0), (.iload_n 1, [], 0), (.iaload, [], 0), (.if_icmp .le 5, [4], 0), (.iconst 2, [], 2), (.ireturn, [0], 0)], 0, [true, true, true, false]),
  ([(.aload_n 0, [], 0), (.iload_n 1, [], 0), (.iconst 0, [], 0), (.iconst 0, [], 0), (.iconst 1, [], 1), (.iconst 1, [], 1), (.invokevirtual 325, [185, 6, 11, 0, 172], 0)], 5, [true, true, false, false]),
  ([(.ifCond .eq 5, [6], 0), (.iconst 0, [], 0), (.ireturn, [0], 0)], 0, [true, true, false, false]),
  ([(.aload_n 0, [], 0), (.iload_n 1, [], 0), (.iconst 0, [], 0), (.iconst 0, [], 0), (.iconst 0, [], 0), (.iconst 1, [], 1), (.invokevirtual 325, [185, 6, 11, 0, 172], 0)], 7, [true, true, false, false]),
  ([(.ifCond .eq 7, [8], 0), (.iconst 4, [], 4), (.goto 4, [9], 0)], 0, [false, false, false, false]),
  ([(.iconst 3, [], 3)], 9, [false, false, false, false]),
  ([(.ireturn, [0], 0)], 0, [false, false, false, false])]
/-- CourtProgressModel.lodge(I)I -/
def ai_c188 : List ai_Bk := [([(.aload_n 0, [], 0), (.iconst 0, [], 0), (.putfield 1, [11, 0, 0, 159], 0), (.aload_n 0, [], 0), (.iload_n 1, [], 0), (.invokevirtual 182, [151, 2, 11, 0, 149], 0)], 1, [true, true, false, false]),
  ([(.ifCond .ne 9, [3], 0), (.aload_n 0, [], 0), (.iconst 1, [], 1), (.invokevirtual 163, [144, 2, 11, 0, 144], 0)], 2, [true, true, false, false]),
  ([(.ireturn, [0], 0)], 0, [false, false, false, false]),
  ([(.aload_n 0, [], 0), (.iload_n 1, [], 0), (.invokevirtual 331, [187, 2, 11, 0, 174], 0)], 4, [true, true, false, false]),
  ([(.ifCond .le 10, [6], 0), (.aload_n 0, [], 0), (.bipush 6, [], 6), (.invokevirtual 163, [144, 2, 11, 0, 144], 0)], 5, [true, true, false, false]),
  ([(.ireturn, [0], 0)], 0, [false, false, false, false]),
  ([(.aload_n 0, [], 0), (.iload_n 1, [], 0), (.invokevirtual 334, [186, 2, 11, 0, 175], 0)], 7, [true, true, false, false]),
  ([(.aload_n 0, [], 0), (.ldc_w 337, [], 1000000000), (.putfield 318, [11, 52, 0, 173], 0), (.aload_n 0, [], 0), (.iload_n 1, [], 0), (.iconst 0, [], 0), (.iconst 0, [], 0), (.iconst 1, [], 1), (.iconst 0, [], 0), (.invokevirtual 325, [185, 6, 11, 0, 172], 0)], 8, [true, true, false, false]),
  ([(.istore_n 2, [], 0), (.iconst 0, [], 0), (.istore_n 3, [], 0)], 9, [true, false, false, false]),
  ([(.iload_n 3, [], 0), (.aload_n 0, [], 0), (.getfield 153, [11, 4, 0, 157], 0), (.if_icmp .ge 21, [10], 0), (.aload_n 0, [], 0), (.getfield 134, [11, 55, 2, 151], 0), (.iload_n 3, [], 0), (.aload_n 0, [], 0), (.getfield 131, [11, 54, 2, 150], 0), (.iload_n 3, [], 0), (.iaload, [], 0), (.iastore, [], 0), (.iinc 3 1, [], 1), (.goto (-23), [9], 0)], 0, [true, false, false, true]),
  ([(.aload_n 0, [], 0), (.aload_n 0, [], 0), (.getfield 153, [11, 4, 0, 157], 0), (.putfield 338, [11, 57, 0, 174], 0), (.aload_n 0, [], 0), (.aload_n 0, [], 0), (.getfield 318, [11, 52, 0, 173], 0), (.invokevirtual 167, [146, 2, 11, 0, 145], 0)], 11, [true, false, false, false]),
  ([(.ireturn, [0], 0)], 0, [false, false, false, false])]
/-- CourtProgressModel.lodged(I)I -/
def ai_c189 : List ai_Bk := [([(.aload_n 0, [], 0), (.iconst 0, [], 0), (.putfield 1, [11, 0, 0, 159], 0), (.iload_n 1, [], 0), (.ifCond .lt 20, [1], 0), (.iload_n 1, [], 0), (.aload_n 0, [], 0), (.getfield 338, [11, 57, 0, 174], 0), (.if_icmp .ge 12, [1], 0), (.aload_n 0, [], 0), (.getfield 134, [11, 55, 2, 151], 0), (.iload_n 1, [], 0), (.iaload, [], 0), (.goto 4, [2], 0)], 0, [true, true]),
  ([(.iconst (-1), [], (-1))], 2, [false, false]),
  ([(.ireturn, [0], 0)], 0, [false, false])]
/-- CourtProgressModel.why(I)I -/
def ai_c190 : List ai_Bk := [([(.aload_n 0, [], 0), (.iconst 0, [], 0), (.putfield 1, [11, 0, 0, 159], 0), (.aload_n 0, [], 0), (.iload_n 1, [], 0), (.invokevirtual 182, [151, 2, 11, 0, 149], 0)], 1, [true, true]),
  ([(.ifCond .eq 15, [4], 0), (.aload_n 0, [], 0), (.aload_n 0, [], 0), (.iload_n 1, [], 0), (.invokevirtual 331, [187, 2, 11, 0, 174], 0)], 2, [true, true]),
  ([(.invokevirtual 167, [146, 2, 11, 0, 145], 0)], 3, [false, false]),
  ([(.goto 8, [5], 0)], 0, [false, false]),
  ([(.aload_n 0, [], 0), (.iconst 1, [], 1), (.invokevirtual 163, [144, 2, 11, 0, 144], 0)], 5, [true, false]),
  ([(.ireturn, [0], 0)], 0, [false, false])]
/-- CourtProgressModel.hoursOf(III)I -/
def ai_c191 : List ai_Bk := [([(.aload_n 0, [], 0), (.getfield 62, [11, 23, 2, 129], 0), (.bipush 9, [], 9), (.iload_n 1, [], 0), (.imul, [], 0), (.iload_n 2, [], 0), (.iadd, [], 0), (.iaload, [], 0), (.iconst 4, [], 4), (.aload_n 0, [], 0), (.getfield 65, [11, 24, 2, 130], 0), (.iload_n 3, [], 0), (.iaload, [], 0), (.iadd, [], 0), (.imul, [], 0), (.iconst 4, [], 4), (.idiv, [], 0), (.istore 4, [], 0), (.iload 4, [], 0), (.ifCond .eq 10, [1], 0), (.iload 4, [], 0), (.bipush 16, [], 16), (.if_icmp .le 7, [2], 0)], 1, [true, true, true, true, false]),
  ([(.iconst (-1), [], (-1)), (.goto 5, [3], 0)], 0, [false, false, false, false, false]),
  ([(.iload 4, [], 0)], 3, [false, false, false, false, true]),
  ([(.ireturn, [0], 0)], 0, [false, false, false, false, false])]
/-- CourtProgressModel.mayBe(II)Z -/
def ai_c192 : List ai_Bk := [([(.aload_n 0, [], 0), (.getfield 68, [11, 25, 2, 131], 0), (.iload_n 2, [], 0), (.iaload, [], 0), (.iconst (-1), [], (-1)), (.if_icmp .eq 13, [1], 0), (.aload_n 0, [], 0), (.getfield 68, [11, 25, 2, 131], 0), (.iload_n 2, [], 0), (.iaload, [], 0), (.iload_n 1, [], 0), (.if_icmp .ne 7, [2], 0)], 1, [true, true, true]),
  ([(.iconst 1, [], 1), (.goto 4, [3], 0)], 0, [false, false, false]),
  ([(.iconst 0, [], 0)], 3, [false, false, false]),
  ([(.ireturn, [1], 0)], 0, [false, false, false])]
/-- CourtProgressModel.goesOn(IIIII)I -/
def ai_c193 : List ai_Bk := [([(.iload_n 1, [], 0), (.iload 5, [], 0), (.iconst 1, [], 1), (.isub, [], 0), (.if_icmp .ne 5, [1], 0), (.iconst 0, [], 0), (.ireturn, [0], 0)], 0, [true, true, true, true, true, true, false, false, false]),
  ([(.ldc_w 337, [], 1000000000), (.istore 6, [], 0), (.iload 4, [], 0), (.aload_n 0, [], 0), (.getfield 144, [11, 59, 2, 154], 0), (.iload_n 1, [], 0), (.iconst 1, [], 1), (.iadd, [], 0), (.iaload, [], 0), (.iadd, [], 0), (.istore 7, [], 0), (.aload_n 0, [], 0), (.iload_n 2, [], 0), (.aload_n 0, [], 0), (.getfield 341, [11, 8, 0, 175], 0), (.iload_n 1, [], 0), (.iadd, [], 0), (.iconst 1, [], 1), (.iadd, [], 0), (.invokevirtual 344, [192, 3, 11, 0, 176], 0)], 2, [true, true, true, true, true, true, false, false, false]),
  ([(.ifCond .eq 40, [4], 0), (.iload 7, [], 0), (.aload_n 0, [], 0), (.getfield 35, [11, 14, 2, 120], 0), (.iload_n 2, [], 0), (.iaload, [], 0), (.if_icmp .gt 29, [4], 0), (.iload 7, [], 0), (.aload_n 0, [], 0), (.getfield 38, [11, 15, 2, 121], 0), (.iload_n 2, [], 0), (.iaload, [], 0), (.if_icmp .gt 18, [4], 0), (.aload_n 0, [], 0), (.iload_n 1, [], 0), (.iconst 1, [], 1), (.iadd, [], 0), (.iload_n 2, [], 0), (.iload_n 3, [], 0), (.iload 7, [], 0), (.iload 5, [], 0), (.invokevirtual 348, [193, 6, 11, 0, 177], 0)], 3, [true, true, true, true, false, true, true, true, false]),
  ([(.istore 6, [], 0)], 4, [true, true, true, true, false, false, false, false, false]),
  ([(.iconst 0, [], 0), (.istore 8, [], 0)], 5, [true, true, true, true, false, false, true, false, false]),
  ([(.iload 8, [], 0), (.aload_n 0, [], 0), (.getfield 156, [11, 5, 0, 158], 0), (.if_icmp .ge 25, [8], 0), (.iload 6, [], 0), (.aload_n 0, [], 0), (.iload_n 1, [], 0), (.iload_n 2, [], 0), (.iload 8, [], 0), (.iload_n 3, [], 0), (.invokevirtual 352, [194, 5, 11, 0, 178], 0)], 6, [true, true, true, true, false, false, true, false, true]),
  ([(.invokestatic 329, [212, 2, 999, 0, 173], 0)], 7, [true, true, true, true, false, false, false, false, true]),
  ([(.istore 6, [], 0), (.iinc 8 1, [], 1), (.goto (-28), [5], 0)], 0, [true, true, true, true, false, false, false, false, true]),
  ([(.iload 6, [], 0), (.ireturn, [0], 0)], 0, [false, false, false, false, false, false, true, false, false])]
/-- CourtProgressModel.leaves(IIII)I -/
def ai_c194 : List ai_Bk := [([(.iload 4, [], 0), (.iload_n 3, [], 0), (.ishr, [], 0), (.iconst 1, [], 1), (.iand, [], 0), (.iconst 1, [], 1), (.if_icmp .ne 7, [1], 0), (.iconst (-1), [], (-1)), (.goto 15, [2], 0)], 0, [true, true, true, true, true, false, false]),
  ([(.aload_n 0, [], 0), (.iload_n 2, [], 0), (.iload_n 3, [], 0), (.aload_n 0, [], 0), (.getfield 341, [11, 8, 0, 175], 0), (.iload_n 1, [], 0), (.iadd, [], 0), (.invokevirtual 356, [191, 4, 11, 0, 179], 0)], 2, [true, true, true, true, true, false, false]),
  ([(.istore 5, [], 0), (.iload 5, [], 0), (.iconst (-1), [], (-1)), (.if_icmp .ne 7, [3], 0), (.ldc_w 337, [], 1000000000), (.ireturn, [0], 0)], 0, [true, true, false, true, true, false, false]),
  ([(.aload_n 0, [], 0), (.getfield 141, [11, 58, 2, 153], 0), (.bipush 9, [], 9), (.iload_n 1, [], 0), (.iconst 1, [], 1), (.iadd, [], 0), (.imul, [], 0), (.iload_n 3, [], 0), (.iadd, [], 0), (.sipush 512, [], 512), (.imul, [], 0), (.iload 4, [], 0), (.iconst 1, [], 1), (.iload_n 3, [], 0), (.ishl, [], 0), (.ior, [], 0), (.iadd, [], 0), (.iaload, [], 0), (.istore 6, [], 0), (.iload 6, [], 0), (.ldc_w 337, [], 1000000000), (.if_icmp .ne 9, [4], 0), (.ldc_w 337, [], 1000000000), (.goto 8, [5], 0)], 0, [true, true, false, true, true, true, false]),
  ([(.iload 5, [], 0), (.iload 6, [], 0), (.iadd, [], 0)], 5, [false, false, false, false, false, true, true]),
  ([(.ireturn, [0], 0)], 0, [false, false, false, false, false, false, false])]
/-- CourtProgressModel.rows(III)V -/
def ai_c195 : List ai_Bk := [([(.iconst 0, [], 0), (.istore 4, [], 0)], 1, [true, true, true, true, false, false, false, false]),
  ([(.iload 4, [], 0), (.iload_n 3, [], 0), (.if_icmp .ge 84, [8], 0), (.aload_n 0, [], 0), (.getfield 150, [11, 63, 2, 156], 0), (.iload 4, [], 0), (.iload 4, [], 0), (.iload_n 3, [], 0), (.iconst 1, [], 1), (.isub, [], 0), (.if_icmp .ne 7, [2], 0), (.iconst 0, [], 0), (.goto 6, [3], 0)], 0, [true, true, true, true, true, false, false, false]),
  ([(.ldc_w 337, [], 1000000000)], 3, [true, true, true, true, true, false, false, false]),
  ([(.iastore, [], 0), (.iconst 0, [], 0), (.istore 5, [], 0)], 4, [true, true, true, true, true, false, false, false]),
  ([(.iload 5, [], 0), (.aload_n 0, [], 0), (.getfield 156, [11, 5, 0, 158], 0), (.if_icmp .ge 44, [7], 0), (.iload 4, [], 0), (.iload_n 3, [], 0), (.iconst 1, [], 1), (.isub, [], 0), (.if_icmp .ge 36, [7], 0), (.aload_n 0, [], 0), (.getfield 150, [11, 63, 2, 156], 0), (.iload 4, [], 0), (.aload_n 0, [], 0), (.getfield 150, [11, 63, 2, 156], 0), (.iload 4, [], 0), (.iaload, [], 0), (.aload_n 0, [], 0), (.iload 4, [], 0), (.iload_n 1, [], 0), (.iload 5, [], 0), (.iload_n 2, [], 0), (.invokevirtual 352, [194, 5, 11, 0, 178], 0)], 5, [true, true, true, true, true, true, false, false]),
  ([(.invokestatic 329, [212, 2, 999, 0, 173], 0)], 6, [true, true, true, true, true, true, false, false]),
  ([(.iastore, [], 0), (.iinc 5 1, [], 1), (.goto (-47), [4], 0)], 0, [true, true, true, true, true, true, false, false]),
  ([(.iinc 4 1, [], 1), (.goto (-84), [1], 0)], 0, [true, true, true, true, true, false, false, false]),
  ([(.iconst 0, [], 0), (.istore 4, [], 0)], 9, [true, true, true, true, false, false, false, false]),
  ([(.iload 4, [], 0), (.iload_n 3, [], 0), (.if_icmp .ge 119, [15], 0), (.ldc_w 337, [], 1000000000), (.istore 5, [], 0), (.iconst 0, [], 0), (.istore 6, [], 0), (.iload 4, [], 0), (.istore 7, [], 0)], 10, [true, true, true, true, true, false, false, false]),
  ([(.iload 7, [], 0), (.iload_n 3, [], 0), (.if_icmp .ge 75, [14], 0), (.aload_n 0, [], 0), (.iload_n 1, [], 0), (.aload_n 0, [], 0), (.getfield 341, [11, 8, 0, 175], 0), (.iload 7, [], 0), (.iadd, [], 0), (.invokevirtual 344, [192, 3, 11, 0, 176], 0)], 11, [true, true, true, true, true, true, true, true]),
  ([(.ifCond .eq 60, [14], 0), (.iload 6, [], 0), (.aload_n 0, [], 0), (.getfield 144, [11, 59, 2, 154], 0), (.iload 7, [], 0), (.iaload, [], 0), (.iadd, [], 0), (.istore 6, [], 0), (.iload 6, [], 0), (.aload_n 0, [], 0), (.getfield 35, [11, 14, 2, 120], 0), (.iload_n 1, [], 0), (.iaload, [], 0), (.if_icmp .gt 37, [14], 0), (.iload 6, [], 0), (.aload_n 0, [], 0), (.getfield 38, [11, 15, 2, 121], 0), (.iload_n 1, [], 0), (.iaload, [], 0), (.if_icmp .le 6, [12], 0), (.goto 23, [14], 0)], 0, [true, true, true, true, true, true, true, true]),
  ([(.iload 5, [], 0), (.aload_n 0, [], 0), (.getfield 150, [11, 63, 2, 156], 0), (.iload 7, [], 0), (.iaload, [], 0), (.invokestatic 329, [212, 2, 999, 0, 173], 0)], 13, [true, true, true, true, true, true, true, true]),
  ([(.istore 5, [], 0), (.iinc 7 1, [], 1), (.goto (-75), [10], 0)], 0, [true, true, true, true, true, false, true, true]),
  ([(.aload_n 0, [], 0), (.getfield 141, [11, 58, 2, 153], 0), (.bipush 9, [], 9), (.iload 4, [], 0), (.imul, [], 0), (.iload_n 1, [], 0), (.iadd, [], 0), (.sipush 512, [], 512), (.imul, [], 0), (.iload_n 2, [], 0), (.iadd, [], 0), (.iload 5, [], 0), (.iastore, [], 0), (.iinc 4 1, [], 1), (.goto (-119), [9], 0)], 0, [true, true, true, true, true, true, false, false]),
  ([(.return_, [], 0)], 0, [false, false, false, false, false, false, false, false])]
/-- CourtProgressModel.route(I)I -/
def ai_c196 : List ai_Bk := [([(.aload_n 0, [], 0), (.iconst 0, [], 0), (.putfield 1, [11, 0, 0, 159], 0), (.iload_n 1, [], 0), (.aload_n 0, [], 0), (.getfield 341, [11, 8, 0, 175], 0), (.aload_n 0, [], 0), (.getfield 341, [11, 8, 0, 175], 0), (.bipush 20, [], 20), (.iadd, [], 0), (.sipush 199, [], 199), (.invokestatic 329, [212, 2, 999, 0, 173], 0)], 1, [true, true, false, false, false, false, false, false, false, false, false, false]),
  ([(.invokestatic 159, [148, 3, 999, 0, 143], 0)], 2, [true, true, false, false, false, false, false, false, false, false, false, false]),
  ([(.ifCond .ne 9, [4], 0), (.aload_n 0, [], 0), (.iconst 2, [], 2), (.invokevirtual 163, [144, 2, 11, 0, 144], 0)], 3, [true, true, false, false, false, false, false, false, false, false, false, false]),
  ([(.ireturn, [0], 0)], 0, [false, false, false, false, false, false, false, false, false, false, false, false]),
  ([(.aload_n 0, [], 0), (.getfield 19, [11, 9, 0, 115], 0), (.iconst (-1), [], (-1)), (.if_icmp .ne 10, [6], 0), (.aload_n 0, [], 0), (.bipush 6, [], 6), (.invokevirtual 163, [144, 2, 11, 0, 144], 0)], 5, [true, true, false, false, false, false, false, false, false, false, false, false]),
  ([(.ireturn, [0], 0)], 0, [false, false, false, false, false, false, false, false, false, false, false, false]),
  ([(.iload_n 1, [], 0), (.aload_n 0, [], 0), (.getfield 341, [11, 8, 0, 175], 0), (.isub, [], 0), (.iconst 1, [], 1), (.iadd, [], 0), (.istore_n 2, [], 0), (.iconst 0, [], 0), (.istore_n 3, [], 0)], 7, [true, true, false, false, false, false, false, false, false, false, false, false]),
  ([(.iload_n 3, [], 0), (.iload_n 2, [], 0), (.if_icmp .ge 25, [9], 0), (.aload_n 0, [], 0), (.getfield 144, [11, 59, 2, 154], 0), (.iload_n 3, [], 0), (.aload_n 0, [], 0), (.aload_n 0, [], 0), (.getfield 341, [11, 8, 0, 175], 0), (.iload_n 3, [], 0), (.iadd, [], 0), (.invokevirtual 315, [182, 2, 11, 0, 170], 0)], 8, [true, false, true, true, false, false, false, false, false, false, false, false]),
  ([(.iastore, [], 0), (.iinc 3 1, [], 1), (.goto (-24), [7], 0)], 0, [true, false, true, true, false, false, false, false, false, false, false, false]),
  ([(.iconst 1, [], 1), (.aload_n 0, [], 0), (.getfield 156, [11, 5, 0, 158], 0), (.ishl, [], 0), (.iconst 1, [], 1), (.isub, [], 0), (.istore_n 3, [], 0)], 10, [true, false, true, false, false, false, false, false, false, false, false, false]),
  ([(.iload_n 3, [], 0), (.ifCond .le 45, [14], 0), (.iconst 0, [], 0), (.istore 4, [], 0)], 11, [true, false, true, true, false, false, false, false, false, false, false, false]),
  ([(.iload 4, [], 0), (.aload_n 0, [], 0), (.getfield 156, [11, 5, 0, 158], 0), (.if_icmp .ge 27, [13], 0), (.iload_n 3, [], 0), (.iload 4, [], 0), (.ishr, [], 0), (.iconst 1, [], 1), (.iand, [], 0), (.iconst 1, [], 1), (.if_icmp .ne 11, [12], 0), (.aload_n 0, [], 0), (.iload 4, [], 0), (.iload_n 3, [], 0), (.iload_n 2, [], 0), (.invokevirtual 359, [195, 4, 11, 0, 180], 0)], 12, [true, false, true, true, true, false, false, false, false, false, false, false]),
  ([(.iinc 4 1, [], 1), (.goto (-30), [11], 0)], 0, [true, false, true, true, true, false, false, false, false, false, false, false]),
  ([(.iinc 3 (-1), [], (-1)), (.goto (-43), [10], 0)], 0, [true, false, true, true, false, false, false, false, false, false, false, false]),
  ([(.aload_n 0, [], 0), (.getfield 141, [11, 58, 2, 153], 0), (.aload_n 0, [], 0), (.getfield 19, [11, 9, 0, 115], 0), (.sipush 512, [], 512), (.imul, [], 0), (.iconst 1, [], 1), (.aload_n 0, [], 0), (.getfield 19, [11, 9, 0, 115], 0), (.ishl, [], 0), (.iadd, [], 0), (.iaload, [], 0), (.istore_n 3, [], 0), (.iload_n 3, [], 0), (.ldc_w 337, [], 1000000000), (.if_icmp .ne 10, [16], 0), (.aload_n 0, [], 0), (.bipush 6, [], 6), (.invokevirtual 163, [144, 2, 11, 0, 144], 0)], 15, [true, false, true, false, false, false, false, false, false, false, false, false]),
  ([(.ireturn, [0], 0)], 0, [false, false, false, false, false, false, false, false, false, false, false, false]),
  ([(.aload_n 0, [], 0), (.getfield 19, [11, 9, 0, 115], 0), (.istore 4, [], 0), (.iconst 1, [], 1), (.aload_n 0, [], 0), (.getfield 19, [11, 9, 0, 115], 0), (.ishl, [], 0), (.istore 5, [], 0), (.aload_n 0, [], 0), (.getfield 144, [11, 59, 2, 154], 0), (.iconst 0, [], 0), (.iaload, [], 0), (.istore 6, [], 0), (.iload_n 3, [], 0), (.istore 7, [], 0), (.aload_n 0, [], 0), (.aload_n 0, [], 0), (.getfield 341, [11, 8, 0, 175], 0), (.putfield 363, [11, 61, 0, 176], 0), (.aload_n 0, [], 0), (.iload_n 2, [], 0), (.putfield 366, [11, 62, 0, 177], 0), (.aload_n 0, [], 0), (.getfield 147, [11, 60, 2, 155], 0), (.iconst 0, [], 0), (.iload 4, [], 0), (.iastore, [], 0), (.iconst 0, [], 0), (.istore 8, [], 0)], 17, [true, false, true, true, false, false, false, false, false, false, false, false]),
  ([(.iload 8, [], 0), (.iconst 1, [], 1), (.iadd, [], 0), (.iload_n 2, [], 0), (.if_icmp .ge 211, [30], 0), (.iload 6, [], 0), (.aload_n 0, [], 0), (.getfield 144, [11, 59, 2, 154], 0), (.iload 8, [], 0), (.iconst 1, [], 1), (.iadd, [], 0), (.iaload, [], 0), (.iadd, [], 0), (.istore 9, [], 0), (.aload_n 0, [], 0), (.iload 4, [], 0), (.aload_n 0, [], 0), (.getfield 341, [11, 8, 0, 175], 0), (.iload 8, [], 0), (.iadd, [], 0), (.iconst 1, [], 1), (.iadd, [], 0), (.invokevirtual 344, [192, 3, 11, 0, 176], 0)], 18, [true, false, true, true, true, true, true, true, true, false, false, false]),
  ([(.ifCond .eq 51, [20], 0), (.iload 9, [], 0), (.aload_n 0, [], 0), (.getfield 35, [11, 14, 2, 120], 0), (.iload 4, [], 0), (.iaload, [], 0), (.if_icmp .gt 39, [20], 0), (.iload 9, [], 0), (.aload_n 0, [], 0), (.getfield 38, [11, 15, 2, 121], 0), (.iload 4, [], 0), (.iaload, [], 0), (.if_icmp .gt 27, [20], 0), (.aload_n 0, [], 0), (.iload 8, [], 0), (.iconst 1, [], 1), (.iadd, [], 0), (.iload 4, [], 0), (.iload 5, [], 0), (.iload 9, [], 0), (.iload_n 2, [], 0), (.invokevirtual 348, [193, 6, 11, 0, 177], 0)], 19, [true, false, true, true, true, true, false, true, true, true, false, false]),
  ([(.iload 7, [], 0), (.if_icmp .ne 7, [20], 0), (.iconst 1, [], 1), (.goto 4, [21], 0)], 0, [true, false, true, true, true, true, false, true, true, true, false, false]),
  ([(.iconst 0, [], 0)], 21, [true, false, true, true, true, true, false, true, true, true, false, false]),
  ([(.istore 10, [], 0), (.iconst 0, [], 0), (.istore 11, [], 0)], 22, [true, false, true, true, true, true, false, true, true, true, false, false]),
  ([(.iload 11, [], 0), (.aload_n 0, [], 0), (.getfield 156, [11, 5, 0, 158], 0), (.if_icmp .ge 41, [26], 0), (.iload 11, [], 0), (.iload 4, [], 0), (.if_icmp .ne 11, [23], 0), (.iload 10, [], 0), (.ifCond .eq 23, [25], 0), (.goto 26, [26], 0)], 0, [true, false, true, true, true, true, false, true, true, true, true, true]),
  ([(.aload_n 0, [], 0), (.iload 8, [], 0), (.iload 4, [], 0), (.iload 11, [], 0), (.iload 5, [], 0), (.invokevirtual 352, [194, 5, 11, 0, 178], 0)], 24, [true, false, true, true, true, true, false, true, true, true, true, true]),
  ([(.iload 7, [], 0), (.if_icmp .eq 9, [26], 0)], 25, [true, false, true, true, true, true, false, true, true, true, true, true]),
  ([(.iinc 11 1, [], 1), (.goto (-44), [22], 0)], 0, [true, false, true, true, true, true, false, true, true, true, true, true]),
  ([(.iload 11, [], 0), (.iload 4, [], 0), (.if_icmp .ne 10, [27], 0), (.iload 9, [], 0), (.istore 6, [], 0), (.goto 47, [29], 0)], 0, [true, false, true, true, true, true, false, true, true, true, false, true]),
  ([(.iload 7, [], 0), (.aload_n 0, [], 0), (.iload 4, [], 0), (.iload 11, [], 0), (.aload_n 0, [], 0), (.getfield 341, [11, 8, 0, 175], 0), (.iload 8, [], 0), (.iadd, [], 0), (.invokevirtual 356, [191, 4, 11, 0, 179], 0)], 28, [true, false, true, true, true, true, false, true, true, false, false, true]),
  ([(.isub, [], 0), (.istore 7, [], 0), (.iload 5, [], 0), (.iconst 1, [], 1), (.iload 11, [], 0), (.ishl, [], 0), (.ior, [], 0), (.istore 5, [], 0), (.iload 11, [], 0), (.istore 4, [], 0), (.aload_n 0, [], 0), (.getfield 144, [11, 59, 2, 154], 0), (.iload 8, [], 0), (.iconst 1, [], 1), (.iadd, [], 0), (.iaload, [], 0), (.istore 6, [], 0)], 29, [true, false, true, true, false, true, false, false, true, false, false, true]),
  ([(.aload_n 0, [], 0), (.getfield 147, [11, 60, 2, 155], 0), (.iload 8, [], 0), (.iconst 1, [], 1), (.iadd, [], 0), (.iload 4, [], 0), (.iastore, [], 0), (.iinc 8 1, [], 1), (.goto (-213), [17], 0)], 0, [true, false, true, true, true, true, true, true, true, false, false, false]),
  ([(.aload_n 0, [], 0), (.iload_n 3, [], 0), (.invokevirtual 167, [146, 2, 11, 0, 145], 0)], 31, [true, false, false, true, false, false, false, false, false, false, false, false]),
  ([(.ireturn, [0], 0)], 0, [false, false, false, false, false, false, false, false, false, false, false, false])]
/-- CourtProgressModel.at(I)I -/
def ai_c197 : List ai_Bk := [([(.aload_n 0, [], 0), (.iconst 0, [], 0), (.putfield 1, [11, 0, 0, 159], 0), (.iload_n 1, [], 0), (.aload_n 0, [], 0), (.getfield 363, [11, 61, 0, 176], 0), (.if_icmp .lt 30, [1], 0), (.iload_n 1, [], 0), (.aload_n 0, [], 0), (.getfield 363, [11, 61, 0, 176], 0), (.aload_n 0, [], 0), (.getfield 366, [11, 62, 0, 177], 0), (.iadd, [], 0), (.if_icmp .ge 17, [1], 0), (.aload_n 0, [], 0), (.getfield 147, [11, 60, 2, 155], 0), (.iload_n 1, [], 0), (.aload_n 0, [], 0), (.getfield 363, [11, 61, 0, 176], 0), (.isub, [], 0), (.iaload, [], 0), (.goto 4, [2], 0)], 0, [true, true]),
  ([(.iconst (-1), [], (-1))], 2, [false, false]),
  ([(.ireturn, [0], 0)], 0, [false, false])]
/-- CourtProgressModel.lasts()I -/
def ai_c198 : List ai_Bk := [([(.aload_n 0, [], 0), (.iconst 0, [], 0), (.putfield 1, [11, 0, 0, 159], 0), (.aload_n 0, [], 0), (.getfield 19, [11, 9, 0, 115], 0), (.iconst (-1), [], (-1)), (.if_icmp .ne 10, [2], 0), (.aload_n 0, [], 0), (.bipush 6, [], 6), (.invokevirtual 163, [144, 2, 11, 0, 144], 0)], 1, [true, false, false, false, false]),
  ([(.ireturn, [0], 0)], 0, [false, false, false, false, false]),
  ([(.iconst 0, [], 0), (.istore_n 1, [], 0), (.lconst 0, [], 0), (.lstore_n 2, [], 0), (.aload_n 0, [], 0), (.getfield 341, [11, 8, 0, 175], 0), (.istore 4, [], 0)], 3, [true, false, false, false, false]),
  ([(.iload 4, [], 0), (.sipush 200, [], 200), (.if_icmp .ge 58, [8], 0), (.lload_n 2, [], 0), (.aload_n 0, [], 0), (.iload 4, [], 0), (.invokevirtual 315, [182, 2, 11, 0, 170], 0)], 4, [true, true, true, false, true]),
  ([(.i2l, [], 0), (.ladd, [], 0), (.lstore_n 2, [], 0), (.lload_n 2, [], 0), (.aload_n 0, [], 0), (.getfield 35, [11, 14, 2, 120], 0), (.aload_n 0, [], 0), (.getfield 19, [11, 9, 0, 115], 0), (.iaload, [], 0), (.i2l, [], 0), (.lcmp, [], 0), (.ifCond .gt 18, [5], 0), (.lload_n 2, [], 0), (.aload_n 0, [], 0), (.getfield 38, [11, 15, 2, 121], 0), (.aload_n 0, [], 0), (.getfield 19, [11, 9, 0, 115], 0), (.iaload, [], 0), (.i2l, [], 0), (.lcmp, [], 0), (.ifCond .le 9, [7], 0)], 5, [true, true, false, false, true]),
  ([(.aload_n 0, [], 0), (.iload_n 1, [], 0), (.invokevirtual 167, [146, 2, 11, 0, 145], 0)], 6, [true, true, false, false, false]),
  ([(.ireturn, [0], 0)], 0, [false, false, false, false, false]),
  ([(.iinc 1 1, [], 1), (.iinc 4 1, [], 1), (.goto (-60), [3], 0)], 0, [true, true, true, false, true]),
  ([(.aload_n 0, [], 0), (.iload_n 1, [], 0), (.invokevirtual 167, [146, 2, 11, 0, 145], 0)], 9, [true, true, false, false, false]),
  ([(.ireturn, [0], 0)], 0, [false, false, false, false, false])]
/-- CourtProgressModel.step(I)I -/
def ai_c199 : List ai_Bk := [([(.aload_n 0, [], 0), (.iconst 0, [], 0), (.putfield 1, [11, 0, 0, 159], 0), (.aload_n 0, [], 0), (.iload_n 1, [], 0), (.invokevirtual 182, [151, 2, 11, 0, 149], 0)], 1, [true, true, false, false]),
  ([(.ifCond .ne 9, [3], 0), (.aload_n 0, [], 0), (.iconst 1, [], 1), (.invokevirtual 163, [144, 2, 11, 0, 144], 0)], 2, [true, true, false, false]),
  ([(.ireturn, [0], 0)], 0, [false, false, false, false]),
  ([(.iload_n 1, [], 0), (.aload_n 0, [], 0), (.getfield 19, [11, 9, 0, 115], 0), (.if_icmp .eq 26, [6], 0), (.aload_n 0, [], 0), (.aload_n 0, [], 0), (.getfield 19, [11, 9, 0, 115], 0), (.iload_n 1, [], 0), (.aload_n 0, [], 0), (.getfield 341, [11, 8, 0, 175], 0), (.invokevirtual 356, [191, 4, 11, 0, 179], 0)], 4, [true, true, false, false]),
  ([(.iconst (-1), [], (-1)), (.if_icmp .ne 9, [6], 0), (.aload_n 0, [], 0), (.iconst 5, [], 5), (.invokevirtual 163, [144, 2, 11, 0, 144], 0)], 5, [true, true, false, false]),
  ([(.ireturn, [0], 0)], 0, [false, false, false, false]),
  ([(.aload_n 0, [], 0), (.getfield 341, [11, 8, 0, 175], 0), (.sipush 199, [], 199), (.if_icmp .ne 9, [8], 0), (.aload_n 0, [], 0), (.iconst 2, [], 2), (.invokevirtual 163, [144, 2, 11, 0, 144], 0)], 7, [true, true, false, false]),
  ([(.ireturn, [0], 0)], 0, [false, false, false, false]),
  ([(.aload_n 0, [], 0), (.aload_n 0, [], 0), (.getfield 341, [11, 8, 0, 175], 0), (.invokevirtual 315, [182, 2, 11, 0, 170], 0)], 9, [true, true, false, false]),
  ([(.istore_n 2, [], 0), (.iload_n 2, [], 0), (.aload_n 0, [], 0), (.getfield 35, [11, 14, 2, 120], 0), (.aload_n 0, [], 0), (.getfield 19, [11, 9, 0, 115], 0), (.iaload, [], 0), (.aload_n 0, [], 0), (.getfield 38, [11, 15, 2, 121], 0), (.aload_n 0, [], 0), (.getfield 19, [11, 9, 0, 115], 0), (.iaload, [], 0), (.invokestatic 329, [212, 2, 999, 0, 173], 0)], 10, [true, true, false, false]),
  ([(.invokestatic 329, [212, 2, 999, 0, 173], 0)], 11, [true, true, true, false]),
  ([(.istore_n 3, [], 0), (.aload_n 0, [], 0), (.getfield 35, [11, 14, 2, 120], 0), (.aload_n 0, [], 0), (.getfield 19, [11, 9, 0, 115], 0), (.dup2, [], 0), (.iaload, [], 0), (.iload_n 3, [], 0), (.isub, [], 0), (.iastore, [], 0), (.aload_n 0, [], 0), (.getfield 38, [11, 15, 2, 121], 0), (.aload_n 0, [], 0), (.getfield 19, [11, 9, 0, 115], 0), (.dup2, [], 0), (.iaload, [], 0), (.iload_n 3, [], 0), (.isub, [], 0), (.iastore, [], 0), (.aload_n 0, [], 0), (.getfield 44, [11, 17, 2, 123], 0), (.aload_n 0, [], 0), (.getfield 19, [11, 9, 0, 115], 0), (.dup2, [], 0), (.iaload, [], 0), (.iload_n 3, [], 0), (.iadd, [], 0), (.iastore, [], 0), (.aload_n 0, [], 0), (.getfield 47, [11, 18, 2, 124], 0), (.aload_n 0, [], 0), (.getfield 19, [11, 9, 0, 115], 0), (.dup2, [], 0), (.iaload, [], 0), (.iconst 1, [], 1), (.iadd, [], 0), (.iastore, [], 0), (.aload_n 0, [], 0), (.getfield 71, [11, 26, 2, 132], 0), (.aload_n 0, [], 0), (.getfield 341, [11, 8, 0, 175], 0), (.aload_n 0, [], 0), (.getfield 19, [11, 9, 0, 115], 0), (.iastore, [], 0), (.aload_n 0, [], 0), (.getfield 74, [11, 27, 2, 133], 0), (.aload_n 0, [], 0), (.getfield 341, [11, 8, 0, 175], 0), (.iload_n 2, [], 0), (.iload_n 3, [], 0), (.isub, [], 0), (.iastore, [], 0), (.aload_n 0, [], 0), (.iload_n 1, [], 0), (.putfield 19, [11, 9, 0, 115], 0), (.aload_n 0, [], 0), (.dup, [], 0), (.getfield 341, [11, 8, 0, 175], 0), (.iconst 1, [], 1), (.iadd, [], 0), (.putfield 341, [11, 8, 0, 175], 0), (.aload_n 0, [], 0), (.iload_n 2, [], 0), (.iload_n 3, [], 0), (.isub, [], 0), (.invokevirtual 167, [146, 2, 11, 0, 145], 0)], 12, [true, true, true, false]),
  ([(.ireturn, [0], 0)], 0, [false, false, false, false])]
/-- CourtProgressModel.about(II)I -/
def ai_c200 : List ai_Bk := [([(.aload_n 0, [], 0), (.iconst 0, [], 0), (.putfield 1, [11, 0, 0, 159], 0), (.aload_n 0, [], 0), (.iload_n 1, [], 0), (.invokevirtual 182, [151, 2, 11, 0, 149], 0)], 1, [true, true, true]),
  ([(.ifCond .ne 5, [2], 0), (.iconst (-1), [], (-1)), (.ireturn, [0], 0)], 0, [true, true, true]),
  ([(.iload_n 2, [], 0), (.tableswitch 71 0 4 #[36, 43, 50, 57, 64], [8, 3, 4, 5, 6, 7], 0)], 0, [true, true, true]),
  ([(.aload_n 0, [], 0), (.getfield 35, [11, 14, 2, 120], 0), (.iload_n 1, [], 0), (.iaload, [], 0), (.ireturn, [0], 0)], 0, [true, true, false]),
  ([(.aload_n 0, [], 0), (.getfield 38, [11, 15, 2, 121], 0), (.iload_n 1, [], 0), (.iaload, [], 0), (.ireturn, [0], 0)], 0, [true, true, false]),
  ([(.aload_n 0, [], 0), (.getfield 44, [11, 17, 2, 123], 0), (.iload_n 1, [], 0), (.iaload, [], 0), (.ireturn, [0], 0)], 0, [true, true, false]),
  ([(.aload_n 0, [], 0), (.getfield 50, [11, 19, 2, 125], 0), (.iload_n 1, [], 0), (.iaload, [], 0), (.ireturn, [0], 0)], 0, [true, true, false]),
  ([(.aload_n 0, [], 0), (.getfield 47, [11, 18, 2, 124], 0), (.iload_n 1, [], 0), (.iaload, [], 0), (.ireturn, [0], 0)], 0, [true, true, false]),
  ([(.iconst (-1), [], (-1)), (.ireturn, [0], 0)], 0, [false, false, false])]
/-- CourtProgressModel.was(I)I -/
def ai_c201 : List ai_Bk := [([(.aload_n 0, [], 0), (.iconst 0, [], 0), (.putfield 1, [11, 0, 0, 159], 0), (.iload_n 1, [], 0), (.ifCond .lt 20, [1], 0), (.iload_n 1, [], 0), (.aload_n 0, [], 0), (.getfield 341, [11, 8, 0, 175], 0), (.if_icmp .ge 12, [1], 0), (.aload_n 0, [], 0), (.getfield 71, [11, 26, 2, 132], 0), (.iload_n 1, [], 0), (.iaload, [], 0), (.goto 4, [2], 0)], 0, [true, true]),
  ([(.iconst (-1), [], (-1))], 2, [false, false]),
  ([(.ireturn, [0], 0)], 0, [false, false])]
/-- CourtProgressModel.lacked(I)I -/
def ai_c202 : List ai_Bk := [([(.aload_n 0, [], 0), (.iconst 0, [], 0), (.putfield 1, [11, 0, 0, 159], 0), (.iload_n 1, [], 0), (.ifCond .lt 20, [1], 0), (.iload_n 1, [], 0), (.aload_n 0, [], 0), (.getfield 341, [11, 8, 0, 175], 0), (.if_icmp .ge 12, [1], 0), (.aload_n 0, [], 0), (.getfield 74, [11, 27, 2, 133], 0), (.iload_n 1, [], 0), (.iaload, [], 0), (.goto 4, [2], 0)], 0, [true, true]),
  ([(.iconst (-1), [], (-1))], 2, [false, false]),
  ([(.ireturn, [0], 0)], 0, [false, false])]
/-- CourtProgressModel.plea(I)I -/
def ai_c203 : List ai_Bk := [([(.aload_n 0, [], 0), (.iconst 0, [], 0), (.putfield 1, [11, 0, 0, 159], 0), (.iload_n 1, [], 0), (.iconst 0, [], 0), (.bipush 99, [], 99), (.invokestatic 159, [148, 3, 999, 0, 143], 0)], 1, [true, true]),
  ([(.ifCond .ne 9, [3], 0), (.aload_n 0, [], 0), (.iconst 2, [], 2), (.invokevirtual 163, [144, 2, 11, 0, 144], 0)], 2, [true, true]),
  ([(.ireturn, [0], 0)], 0, [false, false]),
  ([(.aload_n 0, [], 0), (.getfield 369, [11, 7, 0, 178], 0), (.bipush 60, [], 60), (.if_icmp .ne 9, [5], 0), (.aload_n 0, [], 0), (.iconst 3, [], 3), (.invokevirtual 163, [144, 2, 11, 0, 144], 0)], 4, [true, true]),
  ([(.ireturn, [0], 0)], 0, [false, false]),
  ([(.aload_n 0, [], 0), (.getfield 77, [11, 28, 2, 134], 0), (.aload_n 0, [], 0), (.getfield 369, [11, 7, 0, 178], 0), (.iload_n 1, [], 0), (.iastore, [], 0), (.aload_n 0, [], 0), (.getfield 80, [11, 29, 2, 135], 0), (.aload_n 0, [], 0), (.getfield 369, [11, 7, 0, 178], 0), (.aload_n 0, [], 0), (.getfield 341, [11, 8, 0, 175], 0), (.iastore, [], 0), (.aload_n 0, [], 0), (.getfield 83, [11, 30, 2, 136], 0), (.aload_n 0, [], 0), (.getfield 369, [11, 7, 0, 178], 0), (.bipush (-2), [], (-2)), (.iastore, [], 0), (.aload_n 0, [], 0), (.dup, [], 0), (.getfield 369, [11, 7, 0, 178], 0), (.iconst 1, [], 1), (.iadd, [], 0), (.putfield 369, [11, 7, 0, 178], 0), (.aload_n 0, [], 0), (.aload_n 0, [], 0), (.getfield 369, [11, 7, 0, 178], 0), (.iconst 1, [], 1), (.isub, [], 0), (.invokevirtual 167, [146, 2, 11, 0, 145], 0)], 6, [true, true]),
  ([(.ireturn, [0], 0)], 0, [false, false])]
/-- CourtProgressModel.nextOf(I)I -/
def ai_c204 : List ai_Bk := [([(.iconst 0, [], 0), (.istore_n 2, [], 0)], 1, [true, true, false, false, false, false, false]),
  ([(.iload_n 2, [], 0), (.aload_n 0, [], 0), (.getfield 369, [11, 7, 0, 178], 0), (.if_icmp .ge 123, [9], 0), (.aload_n 0, [], 0), (.getfield 83, [11, 30, 2, 136], 0), (.iload_n 2, [], 0), (.iaload, [], 0), (.bipush (-2), [], (-2)), (.if_icmp .eq 6, [2], 0), (.goto 103, [8], 0)], 0, [true, true, true, false, false, false, false]),
  ([(.aload_n 0, [], 0), (.getfield 77, [11, 28, 2, 134], 0), (.iload_n 2, [], 0), (.iaload, [], 0), (.aload_n 0, [], 0), (.getfield 80, [11, 29, 2, 135], 0), (.iload_n 2, [], 0), (.iaload, [], 0), (.isub, [], 0), (.istore_n 3, [], 0), (.iconst 0, [], 0), (.istore 4, [], 0), (.iconst 0, [], 0), (.istore 5, [], 0)], 3, [true, true, true, false, false, false, false]),
  ([(.iload 5, [], 0), (.aload_n 0, [], 0), (.getfield 369, [11, 7, 0, 178], 0), (.if_icmp .ge 66, [7], 0), (.aload_n 0, [], 0), (.getfield 77, [11, 28, 2, 134], 0), (.iload 5, [], 0), (.iaload, [], 0), (.aload_n 0, [], 0), (.getfield 80, [11, 29, 2, 135], 0), (.iload 5, [], 0), (.iaload, [], 0), (.isub, [], 0), (.istore 6, [], 0), (.iload 4, [], 0), (.aload_n 0, [], 0), (.getfield 83, [11, 30, 2, 136], 0), (.iload 5, [], 0), (.iaload, [], 0), (.bipush (-2), [], (-2)), (.if_icmp .ne 25, [5], 0), (.iload 6, [], 0), (.iload_n 3, [], 0), (.if_icmp .gt 15, [4], 0), (.iload 6, [], 0), (.iload_n 3, [], 0), (.if_icmp .ne 13, [5], 0), (.iload 5, [], 0), (.iload_n 2, [], 0), (.if_icmp .ge 7, [5], 0)], 4, [true, true, true, true, true, true, false]),
  ([(.iconst 1, [], 1), (.goto 4, [6], 0)], 0, [true, true, true, true, false, true, false]),
  ([(.iconst 0, [], 0)], 6, [true, true, true, true, false, true, false]),
  ([(.iadd, [], 0), (.istore 4, [], 0), (.iinc 5 1, [], 1), (.goto (-69), [3], 0)], 0, [true, true, true, true, false, true, false]),
  ([(.iload 4, [], 0), (.iload_n 1, [], 0), (.if_icmp .ne 5, [8], 0), (.iload_n 2, [], 0), (.ireturn, [0], 0)], 0, [true, true, true, false, true, false, false]),
  ([(.iinc 2 1, [], 1), (.goto (-125), [1], 0)], 0, [true, true, true, false, false, false, false]),
  ([(.iconst (-1), [], (-1)), (.ireturn, [0], 0)], 0, [false, false, false, false, false, false, false])]
/-- CourtProgressModel.hear(I)I -/
def ai_c205 : List ai_Bk := [([(.aload_n 0, [], 0), (.iconst 0, [], 0), (.putfield 1, [11, 0, 0, 159], 0), (.iload_n 1, [], 0), (.iconst 1, [], 1), (.bipush 9, [], 9), (.invokestatic 159, [148, 3, 999, 0, 143], 0)], 1, [true, true, false, false]),
  ([(.ifCond .ne 9, [3], 0), (.aload_n 0, [], 0), (.iconst 2, [], 2), (.invokevirtual 163, [144, 2, 11, 0, 144], 0)], 2, [true, true, false, false]),
  ([(.ireturn, [0], 0)], 0, [false, false, false, false]),
  ([(.iconst 0, [], 0), (.istore_n 2, [], 0), (.aload_n 0, [], 0), (.iconst 0, [], 0), (.invokevirtual 372, [204, 2, 11, 0, 181], 0)], 4, [true, true, false, false]),
  ([(.istore_n 3, [], 0)], 5, [true, true, true, false]),
  ([(.iload_n 2, [], 0), (.iload_n 1, [], 0), (.if_icmp .ge 30, [7], 0), (.iload_n 3, [], 0), (.iconst (-1), [], (-1)), (.if_icmp .eq 25, [7], 0), (.aload_n 0, [], 0), (.getfield 83, [11, 30, 2, 136], 0), (.iload_n 3, [], 0), (.aload_n 0, [], 0), (.getfield 341, [11, 8, 0, 175], 0), (.iastore, [], 0), (.iinc 2 1, [], 1), (.aload_n 0, [], 0), (.iconst 0, [], 0), (.invokevirtual 372, [204, 2, 11, 0, 181], 0)], 6, [true, true, true, true]),
  ([(.istore_n 3, [], 0), (.goto (-29), [5], 0)], 0, [true, true, true, false]),
  ([(.aload_n 0, [], 0), (.iload_n 2, [], 0), (.invokevirtual 167, [146, 2, 11, 0, 145], 0)], 8, [true, false, true, false]),
  ([(.ireturn, [0], 0)], 0, [false, false, false, false])]
/-- CourtProgressModel.heard(I)I -/
def ai_c206 : List ai_Bk := [([(.aload_n 0, [], 0), (.iconst 0, [], 0), (.putfield 1, [11, 0, 0, 159], 0), (.iload_n 1, [], 0), (.ifCond .lt 20, [1], 0), (.iload_n 1, [], 0), (.aload_n 0, [], 0), (.getfield 369, [11, 7, 0, 178], 0), (.if_icmp .ge 12, [1], 0), (.aload_n 0, [], 0), (.getfield 83, [11, 30, 2, 136], 0), (.iload_n 1, [], 0), (.iaload, [], 0), (.goto 4, [2], 0)], 0, [true, true]),
  ([(.iconst (-1), [], (-1))], 2, [false, false]),
  ([(.ireturn, [0], 0)], 0, [false, false])]
/-- CourtProgressModel.next(I)I -/
def ai_c207 : List ai_Bk := [([(.aload_n 0, [], 0), (.iconst 0, [], 0), (.putfield 1, [11, 0, 0, 159], 0), (.aload_n 0, [], 0), (.iload_n 1, [], 0), (.invokevirtual 372, [204, 2, 11, 0, 181], 0)], 1, [true, true]),
  ([(.ireturn, [0], 0)], 0, [false, false])]
/-- CourtProgressModel.count(I)I -/
def ai_c208 : List ai_Bk := [([(.aload_n 0, [], 0), (.iconst 0, [], 0), (.putfield 1, [11, 0, 0, 159], 0), (.iload_n 1, [], 0), (.tableswitch 120 0 7 #[46, 51, 56, 61, 66, 105, 110, 115], [13, 1, 2, 3, 4, 5, 10, 11, 12], 0)], 0, [true, true, false, false]),
  ([(.aload_n 0, [], 0), (.getfield 153, [11, 4, 0, 157], 0), (.ireturn, [0], 0)], 0, [true, false, false, false]),
  ([(.aload_n 0, [], 0), (.getfield 156, [11, 5, 0, 158], 0), (.ireturn, [0], 0)], 0, [true, false, false, false]),
  ([(.aload_n 0, [], 0), (.getfield 266, [11, 41, 0, 170], 0), (.ireturn, [0], 0)], 0, [true, false, false, false]),
  ([(.aload_n 0, [], 0), (.getfield 188, [11, 6, 0, 160], 0), (.ireturn, [0], 0)], 0, [true, false, false, false]),
  ([(.iconst 0, [], 0), (.istore_n 2, [], 0), (.iconst 0, [], 0), (.istore_n 3, [], 0)], 6, [true, false, false, false]),
  ([(.iload_n 3, [], 0), (.aload_n 0, [], 0), (.getfield 369, [11, 7, 0, 178], 0), (.if_icmp .ge 28, [9], 0), (.iload_n 2, [], 0), (.aload_n 0, [], 0), (.getfield 83, [11, 30, 2, 136], 0), (.iload_n 3, [], 0), (.iaload, [], 0), (.bipush (-2), [], (-2)), (.if_icmp .ne 7, [7], 0), (.iconst 1, [], 1), (.goto 4, [8], 0)], 0, [true, false, true, true]),
  ([(.iconst 0, [], 0)], 8, [true, false, false, true]),
  ([(.iadd, [], 0), (.istore_n 2, [], 0), (.iinc 3 1, [], 1), (.goto (-30), [6], 0)], 0, [true, false, false, true]),
  ([(.iload_n 2, [], 0), (.ireturn, [0], 0)], 0, [false, false, true, false]),
  ([(.aload_n 0, [], 0), (.getfield 341, [11, 8, 0, 175], 0), (.ireturn, [0], 0)], 0, [true, false, false, false]),
  ([(.aload_n 0, [], 0), (.getfield 19, [11, 9, 0, 115], 0), (.ireturn, [0], 0)], 0, [true, false, false, false]),
  ([(.aload_n 0, [], 0), (.getfield 285, [11, 33, 0, 171], 0), (.ireturn, [0], 0)], 0, [true, false, false, false]),
  ([(.iconst (-1), [], (-1)), (.ireturn, [0], 0)], 0, [false, false, false, false])]
/-- CourtProgressModel.trouble()I -/
def ai_c209 : List ai_Bk := [([(.aload_n 0, [], 0), (.iconst 0, [], 0), (.putfield 1, [11, 0, 0, 159], 0), (.aload_n 0, [], 0), (.getfield 7, [11, 1, 0, 113], 0), (.ireturn, [0], 0)], 0, [true])]
/-- java/lang/Integer.bitCount(I)I -/
def ai_c210 : List ai_Bk := [([(.iload_n 0, [], 0), (.iload_n 0, [], 0), (.iconst 1, [], 1), (.iushr, [], 0), (.ldc_w 265, [], 1431655765), (.iand, [], 0), (.isub, [], 0), (.istore_n 0, [], 0), (.iload_n 0, [], 0), (.ldc_w 266, [], 858993459), (.iand, [], 0), (.iload_n 0, [], 0), (.iconst 2, [], 2), (.iushr, [], 0), (.ldc_w 266, [], 858993459), (.iand, [], 0), (.iadd, [], 0), (.istore_n 0, [], 0), (.iload_n 0, [], 0), (.iload_n 0, [], 0), (.iconst 4, [], 4), (.iushr, [], 0), (.iadd, [], 0), (.ldc_w 267, [], 252645135), (.iand, [], 0), (.istore_n 0, [], 0), (.iload_n 0, [], 0), (.iload_n 0, [], 0), (.bipush 8, [], 8), (.iushr, [], 0), (.iadd, [], 0), (.istore_n 0, [], 0), (.iload_n 0, [], 0), (.iload_n 0, [], 0), (.bipush 16, [], 16), (.iushr, [], 0), (.iadd, [], 0), (.istore_n 0, [], 0), (.iload_n 0, [], 0), (.bipush 63, [], 63), (.iand, [], 0), (.ireturn, [0], 0)], 0, [true])]
/-- java/lang/Math.max(II)I -/
def ai_c211 : List ai_Bk := [([(.iload_n 0, [], 0), (.iload_n 1, [], 0), (.if_icmp .lt 7, [1], 0), (.iload_n 0, [], 0), (.goto 4, [2], 0)], 0, [true, true]),
  ([(.iload_n 1, [], 0)], 2, [false, true]),
  ([(.ireturn, [0], 0)], 0, [false, false])]
/-- java/lang/Math.min(II)I -/
def ai_c212 : List ai_Bk := [([(.iload_n 0, [], 0), (.iload_n 1, [], 0), (.if_icmp .gt 7, [1], 0), (.iload_n 0, [], 0), (.goto 4, [2], 0)], 0, [true, true]),
  ([(.iload_n 1, [], 0)], 2, [false, true]),
  ([(.ireturn, [0], 0)], 0, [false, false])]
/-- java/lang/Math.min(JJ)J -/
def ai_c213 : List ai_Bk := [([(.lload_n 0, [], 0), (.lload_n 2, [], 0), (.lcmp, [], 0), (.ifCond .gt 7, [1], 0), (.lload_n 0, [], 0), (.goto 4, [2], 0)], 0, [true, false, true, false]),
  ([(.lload_n 2, [], 0)], 2, [false, false, true, false]),
  ([(.lreturn, [], 0)], 0, [false, false, false, false])]
/-- CourtProgress$Router.rowEnd(II)I -/
def ai_c214 : List ai_Bk := [([(.iload_n 1, [], 0), (.ifCond .lt 30, [1], 0), (.iload_n 1, [], 0), (.aload_n 0, [], 0), (.getfield 55, [5, 4, 0, 60], 0), (.if_icmp .gt 22, [1], 0), (.iload_n 2, [], 0), (.ifCond .lt 18, [1], 0), (.iload_n 2, [], 0), (.aload_n 0, [], 0), (.getfield 27, [5, 0, 2, 54], 0), (.getfield 86, [3, 0, 0, 63], 0), (.if_icmp .ge 7, [1], 0), (.iconst 1, [], 1), (.goto 4, [2], 0)], 0, [true, true, true, false]),
  ([(.iconst 0, [], 0)], 2, [true, true, true, false]),
  ([(.istore_n 3, [], 0), (.iload_n 3, [], 0), (.ifCond .eq 17, [3], 0), (.aload_n 0, [], 0), (.getfield 18, [5, 8, 2, 51], 0), (.iload_n 1, [], 0), (.bipush 9, [], 9), (.imul, [], 0), (.iload_n 2, [], 0), (.iadd, [], 0), (.iaload, [], 0), (.goto 6, [4], 0)], 0, [true, true, true, false]),
  ([(.iload_n 1, [], 0), (.iconst 1, [], 1), (.isub, [], 0)], 4, [false, true, false, false]),
  ([(.ireturn, [0], 0)], 0, [false, false, false, false])]
/-- CourtProgress$Tape.byteAt(I)I -/
def ai_c215 : List ai_Bk := [([(.iload_n 1, [], 0), (.ifCond .lt 20, [1], 0), (.iload_n 1, [], 0), (.aload_n 0, [], 0), (.getfield 37, [8, 2, 0, 86], 0), (.if_icmp .ge 12, [1], 0), (.aload_n 0, [], 0), (.getfield 11, [8, 1, 2, 81], 0), (.iload_n 1, [], 0), (.iaload, [], 0), (.goto 4, [2], 0)], 0, [true, true]),
  ([(.iconst (-1), [], (-1))], 2, [false, false]),
  ([(.ireturn, [0], 0)], 0, [false, false])]
def ai_prog : List (List ai_Bk) := [ai_c0, ai_c1, ai_c2, ai_c3, ai_c4, ai_c5, ai_c6, ai_c7, ai_c8, ai_c9, ai_c10, ai_c11, ai_c12, ai_c13, ai_c14, ai_c15, ai_c16, ai_c17, ai_c18, ai_c19, ai_c20, ai_c21, ai_c22, ai_c23, ai_c24, ai_c25, ai_c26, ai_c27, ai_c28, ai_c29, ai_c30, ai_c31, ai_c32, ai_c33, ai_c34, ai_c35, ai_c36, ai_c37, ai_c38, ai_c39, ai_c40, ai_c41, ai_c42, ai_c43, ai_c44, ai_c45, ai_c46, ai_c47, ai_c48, ai_c49, ai_c50, ai_c51, ai_c52, ai_c53, ai_c54, ai_c55, ai_c56, ai_c57, ai_c58, ai_c59, ai_c60, ai_c61, ai_c62, ai_c63, ai_c64, ai_c65, ai_c66, ai_c67, ai_c68, ai_c69, ai_c70, ai_c71, ai_c72, ai_c73, ai_c74, ai_c75, ai_c76, ai_c77, ai_c78, ai_c79, ai_c80, ai_c81, ai_c82, ai_c83, ai_c84, ai_c85, ai_c86, ai_c87, ai_c88, ai_c89, ai_c90, ai_c91, ai_c92, ai_c93, ai_c94, ai_c95, ai_c96, ai_c97, ai_c98, ai_c99, ai_c100, ai_c101, ai_c102, ai_c103, ai_c104, ai_c105, ai_c106, ai_c107, ai_c108, ai_c109, ai_c110, ai_c111, ai_c112, ai_c113, ai_c114, ai_c115, ai_c116, ai_c117, ai_c118, ai_c119, ai_c120, ai_c121, ai_c122, ai_c123, ai_c124, ai_c125, ai_c126, ai_c127, ai_c128, ai_c129, ai_c130, ai_c131, ai_c132, ai_c133, ai_c134, ai_c135, ai_c136, ai_c137, ai_c138, ai_c139, ai_c140, ai_c141, ai_c142, ai_c143, ai_c144, ai_c145, ai_c146, ai_c147, ai_c148, ai_c149, ai_c150, ai_c151, ai_c152, ai_c153, ai_c154, ai_c155, ai_c156, ai_c157, ai_c158, ai_c159, ai_c160, ai_c161, ai_c162, ai_c163, ai_c164, ai_c165, ai_c166, ai_c167, ai_c168, ai_c169, ai_c170, ai_c171, ai_c172, ai_c173, ai_c174, ai_c175, ai_c176, ai_c177, ai_c178, ai_c179, ai_c180, ai_c181, ai_c182, ai_c183, ai_c184, ai_c185, ai_c186, ai_c187, ai_c188, ai_c189, ai_c190, ai_c191, ai_c192, ai_c193, ai_c194, ai_c195, ai_c196, ai_c197, ai_c198, ai_c199, ai_c200, ai_c201, ai_c202, ai_c203, ai_c204, ai_c205, ai_c206, ai_c207, ai_c208, ai_c209, ai_c210, ai_c211, ai_c212, ai_c213, ai_c214, ai_c215]
def ai_code (mi b : Nat) : ai_Bk := ((ai_prog[mi]?).getD [])[b]?.getD ([], 0, [])
def ai_mxs : List Nat := [2, 5, 2, 2, 2, 3, 1, 2, 4, 4, 2, 3, 3, 2, 2, 2, 3, 1, 6, 5, 3, 11, 2, 8, 3, 12, 5, 7, 8, 5, 8, 4, 1, 2, 4, 6, 4, 5, 2, 4, 3, 1, 4, 5, 2, 2, 4, 3, 5, 3, 5, 4, 8, 7, 7, 6, 7, 8, 8, 3, 2, 1, 2, 2, 3, 2, 2, 1, 1, 1, 1, 2, 3, 1, 1, 2, 5, 4, 2, 5, 5, 6, 2, 2, 5, 7, 5, 2, 2, 1, 1, 3, 2, 2, 5, 3, 3, 3, 5, 3, 5, 2, 2, 1, 2, 4, 4, 5, 5, 4, 4, 3, 8, 6, 3, 1, 1, 2, 4, 2, 4, 2, 2, 3, 2, 4, 3, 3, 2, 2, 2, 2, 2, 2, 2, 1, 2, 2, 2, 1, 2, 1, 3, 1, 2, 2, 2, 1, 3, 2, 2, 2, 1, 4, 4, 4, 6, 4, 5, 3, 8, 2, 2, 1, 1, 4, 3, 2, 2, 2, 6, 4, 4, 8, 4, 1, 1, 4, 2, 4, 9, 4, 5, 2, 9, 9, 4, 4, 4, 2, 2, 5, 3, 9, 7, 8, 12, 2, 5, 4, 3, 2, 2, 2, 7, 4, 2, 2, 4, 1, 1, 2, 2, 4, 4, 2]
def ai_mx (mi : Nat) : Nat := (ai_mxs[mi]?).getD 0
def ai_nfs : List Nat := [3, 5, 16, 11, 5, 14, 5, 8, 6, 15, 8, 64]
def ai_nf (ci : Nat) : Nat := (ai_nfs[ci]?).getD 0
def ai_fts : List (List Nat) := [[2, 2, 0], [0, 2, 2, 2, 2], [2, 2, 0, 2, 2, 2, 2, 2, 2, 2, 2, 2, 2, 2, 0, 0], [0, 2, 2, 2, 2, 2, 2, 2, 2, 2, 2], [0, 0, 2, 2, 2], [2, 2, 2, 0, 0, 0, 2, 2, 2, 2, 0, 2, 0, 0], [2, 2, 0, 0, 0], [2, 2, 0, 2, 2, 2, 0, 2], [0, 2, 0, 0, 2, 2], [2, 2, 2, 2, 2, 2, 2, 2, 2, 2, 2, 2, 0, 0, 0], [2, 2, 2, 2, 2, 0, 0, 0], [0, 0, 0, 0, 0, 0, 0, 0, 0, 0, 2, 2, 2, 2, 2, 2, 2, 2, 2, 2, 2, 2, 2, 2, 2, 2, 2, 2, 2, 2, 2, 2, 2, 0, 0, 0, 0, 0, 0, 0, 1, 0, 2, 2, 2, 2, 2, 2, 2, 2, 2, 2, 0, 2, 2, 2, 2, 0, 2, 2, 2, 0, 0, 2]]
def ai_ft (ci j : Nat) : Nat := ((ai_fts[ci]?).getD [])[j]?.getD 0
def ai_strs : List (List Int32) := [[114, 97, 110, 107], [109, 111, 117, 116, 104, 115], [104, 111, 114, 115, 101, 115], [100, 97, 121], [109, 117, 100], [102, 101, 97, 115, 116], [119, 104, 101, 110], [97, 110, 100], [101, 97, 116, 115], [102, 101, 101, 100, 115], [119, 104, 101, 110], [101, 97, 116, 115], [102, 101, 101, 100, 115], [97, 110, 100], [114, 97, 110, 107], [109, 111, 117, 116, 104, 115], [104, 111, 114, 115, 101, 115], [100, 97, 121], [109, 117, 100], [102, 101, 97, 115, 116]]
/-- kinds of rows that newarray makes -/
def ai_kt (ty : ArrayType) (kd : Nat) : Bool := match ty with
  | .int => Nat.beq kd 1 || Nat.beq kd 4
  | .byte => Nat.beq kd 2
  | .boolean => Nat.beq kd 3
  | _ => false
/-- the router's row that grows: 45 the router, 9 the places, 49 the row -/
def ai_mrsz (x : Int32) : Int32 := if x < 1 then 0 else (1 <<< ((x - 1) &&& 31)) * x * 21
def ai_mrOK (h : ai_Hp) : Prop := ai_obj h 45 5 = true ∧ ai_obj h 9 3 = true ∧ h.2.2.1 45 0 = some 9 ∧ h.2.2.1 45 9 = some 49 ∧ ai_row h 49 4 4 ≠ none ∧ ai_in (ai_mrsz (h.2.2.2.1 9 0)) 1000001 = true ∧ ∀ k j, h.2.2.1 k j = some 49 → k = 45 ∧ j = 9
noncomputable def ai_mr (h : ai_Hp) : ai_Res := @ite _ (ai_mrOK h) (Classical.propDecidable _) (some (.inl none, if Int32.ofNat ((ai_row h 49 4 4).getD 0) < ai_mrsz (h.2.2.2.1 9 0) then
    ((h.1.1 + 1, h.1.2 + (ai_mrsz (h.2.2.2.1 9 0)).toNatClampNeg), h.2.1.set 49 (4, (ai_mrsz (h.2.2.2.1 9 0)).toNatClampNeg), h.2.2.1, (fun a => if a = 49 then (fun _ => 0) else h.2.2.2.1 a), h.2.2.2.2) else h)) none
noncomputable def ai_prim (cal : Nat) (vs : List Value) (h : ai_Hp) : ai_Res := match cal, vs with
  | 300, [.retAddr (j + 1)] => (match ai_strs[j]? with
    | some s => some (.inl (some (.int (Int32.ofNat s.length))), h)
    | none => none)
  | 301, [.retAddr (j + 1), .int i] => (match ai_strs[j]? with
    | some s => cond (ai_in i s.length) (some (.inl (some (.int (s.getD i.toNatClampNeg 0))), h)) none
    | none => none)
  | 302, [.ref a] => cond (ai_obj h a 10 && (List.range 8).all fun j => (h.2.2.1 a j).isNone) (some (.inl none, h)) none
  | 303, [.ref 45] => ai_mr h
  | _, _ => none
/-- a call's road: d is how many frames more may lie; n how many values it takes (the receiver too); ci the receiver's kind (999: none); hd the block that catches (0: none) -/
def ai_back (rc : ai_Rec) (d mi hd : Nat) (L r : List Value) (k : ai_K) (x : ai_Res) : ai_Res := match x with
  | some (.inl none, h) => k L r h
  | some (.inl (some v), h) => k L (v :: r) h
  | some (.inr a, h) => cond (Nat.beq hd 0) (some (.inr a, h)) (rc d mi hd L [.ref a] h)
  | none => none
def ai_rcv (h : ai_Hp) (ci : Nat) (vs : List Value) : Bool := cond (Nat.beq ci 999) true (match vs with
  | .ref a :: _ => ai_obj h a ci
  | .retAddr (_ + 1) :: _ => Nat.beq ci 998
  | _ => false)
noncomputable def ai_inv (rc : ai_Rec) (d mi cal n ci hd : Nat) (L st : List Value) (h : ai_Hp) (k : ai_K) : ai_Res := match d with
  | 0 => none
  | e + 1 => cond (Nat.ble n st.length && (ai_fr h.2.1 L && (ai_fr h.2.1 (st.drop n) && (Nat.ble (ai_wt (st.drop n)) 8 && (ai_rcv h ci (st.take n).reverse && Nat.beq L.length (ai_mx mi))))))
      (ai_back rc (e + 1) mi hd L (st.drop n) k (cond (Nat.ble 300 cal) (ai_prim cal (st.take n).reverse h) (rc e cal 0 (ai_ent (ai_mx cal) (st.take n).reverse) [] h))) none
noncomputable def ai_call (rc : ai_Rec) (d mi : Nat) (aux : List Nat) (L st : List Value) (h : ai_Hp) (k : ai_K) : ai_Res := match aux with
  | cal :: n :: ci :: hd :: _ => ai_inv rc d mi cal n ci hd L st h k
  | _ => none
noncomputable def ai_spec (rc : ai_Rec) (d mi : Nat) (aux : List Nat) (L st : List Value) (h : ai_Hp) (k : ai_K) : ai_Res := match aux with
  | cal :: n :: ci :: hd :: _ => cond (Nat.beq cal 998) (match d, st with
      | _ + 1, .ref _ :: r => cond (Nat.ble (ai_wt r) 8 && Nat.beq L.length (ai_mx mi)) (k L r h) none
      | _, _ => none) (ai_inv rc d mi cal n ci hd L st h k)
  | _ => none
noncomputable def ai_step (rc : ai_Rec) (d mi : Nat) (op : ai_Op) (L st : List Value) (h : ai_Hp) (k : ai_K) : ai_Res := match op.1 with
  | .iconst _ => k L (.int op.2.2 :: st) h
  | .bipush _ => k L (.int op.2.2 :: st) h
  | .sipush _ => k L (.int op.2.2 :: st) h
  | .ldc _ => (match op.2.1 with
    | [] => k L (.int op.2.2 :: st) h
    | j :: _ => k L (.retAddr (j + 1) :: st) h)
  | .ldc_w _ => (match op.2.1 with
    | [] => k L (.int op.2.2 :: st) h
    | j :: _ => k L (.retAddr (j + 1) :: st) h)
  | .ldc2_w _ => k L (.long op.2.2.toInt64 :: st) h
  | .lconst n => k L (.long (Int64.ofNat n.val) :: st) h
  | .aconst_null => k L (.null :: st) h
  | .iload i => ai_ldI i L st h k
  | .iload_n i => ai_ldI i.val L st h k
  | .lload i => ai_ldL i L st h k
  | .lload_n i => ai_ldL i.val L st h k
  | .aload i => ai_ldA i L st h k
  | .aload_n i => ai_ldA i.val L st h k
  | .istore i => ai_stI i L st h k
  | .istore_n i => ai_stI i.val L st h k
  | .lstore i => ai_stL i L st h k
  | .lstore_n i => ai_stL i.val L st h k
  | .astore i => ai_stA i L st h k
  | .astore_n i => ai_stA i.val L st h k
  | .iinc i _ => (match L[i]? with
    | some (.int x) => k (ai_set L i (.int (x + op.2.2))) st h
    | _ => none)
  | .iadd => ai_bin (fun x y => x + y) L st h k
  | .isub => ai_bin (fun x y => x - y) L st h k
  | .imul => ai_bin (fun x y => x * y) L st h k
  | .iand => ai_bin (fun x y => x &&& y) L st h k
  | .ior => ai_bin (fun x y => x ||| y) L st h k
  | .ixor => ai_bin (fun x y => x ^^^ y) L st h k
  | .ishl => ai_bin (fun x y => x <<< (y &&& 31)) L st h k
  | .ishr => ai_bin (fun x y => x >>> (y &&& 31)) L st h k
  | .iushr => ai_bin (fun x y => (x.toUInt32 >>> (y.toUInt32 &&& Int32.toUInt32 31)).toInt32) L st h k
  | .idiv => (match st with
    | .int y :: .int x :: r => if y = 0 then none else k L (.int (x / y) :: r) h
    | _ => none)
  | .irem => (match st with
    | .int y :: .int x :: r => if y = 0 then none else k L (.int (x - x / y * y) :: r) h
    | _ => none)
  | .ineg => ai_un1 (fun x => .int (-x)) L st h k
  | .i2l => ai_un1 (fun x => .long x.toInt64) L st h k
  | .i2b => ai_un1 (fun x => .int x.toInt8.toInt32) L st h k
  | .l2i => (match st with
    | .long x :: r => k L (.int x.toInt32 :: r) h
    | _ => none)
  | .ladd => ai_binL (fun x y => x + y) L st h k
  | .lmul => ai_binL (fun x y => x * y) L st h k
  | .lcmp => (match st with
    | .long y :: .long x :: r => k L (.int (lg_cmp x y) :: r) h
    | _ => none)
  | .dup => (match st with
    | .int x :: r => k L (.int x :: .int x :: r) h
    | .ref x :: r => k L (.ref x :: .ref x :: r) h
    | _ => none)
  | .dup2 => (match st with
    | .int x :: .ref y :: r => k L (.int x :: .ref y :: .int x :: .ref y :: r) h
    | _ => none)
  | .ifCond cd _ => (match st with
    | .int x :: r => ai_br cd x 0 (rc d mi (op.2.1.headD 0) L r h) (k L r h)
    | _ => none)
  | .if_icmp cd _ => (match st with
    | .int y :: .int x :: r => ai_br cd x y (rc d mi (op.2.1.headD 0) L r h) (k L r h)
    | _ => none)
  | .goto _ => rc d mi (op.2.1.headD 0) L st h
  | .tableswitch _ lo hi _ => (match st with
    | .int x :: r => if x.toInt < lo ∨ hi < x.toInt then rc d mi (op.2.1.headD 0) L r h else rc d mi (op.2.1.tail.getD (x.toInt - lo).toNat 0) L r h
    | _ => none)
  | .lookupswitch _ ps => (match st with
    | .int x :: r => rc d mi (ai_look x.toInt ps.toList op.2.1.tail (op.2.1.headD 0)) L r h
    | _ => none)
  | .ireturn => (match st with
    | [.int v] => cond (Nat.beq (op.2.1.headD 0) 1) (if v = 0 ∨ v = 1 then some (.inl (some (.int v)), h) else none) (some (.inl (some (.int v)), h))
    | _ => none)
  | .lreturn => (match st with
    | [.long v] => some (.inl (some (.long v)), h)
    | _ => none)
  | .areturn => (match st with
    | [.ref v] => some (.inl (some (.ref v)), h)
    | _ => none)
  | .return_ => (match st with
    | [] => some (.inl none, h)
    | _ => none)
  | .athrow => (match st with
    | [.ref a] => cond (ai_obj h a 10) (some (.inr a, h)) none
    | _ => none)
  | .getfield _ => (match op.2.1, st with
    | ci :: j :: ty :: _, .ref a :: r => (match ai_getf a ci j ty h with
      | some v => k L (v :: r) h
      | none => none)
    | _, _ => none)
  | .putfield _ => (match op.2.1, st with
    | ci :: j :: ty :: _, v :: .ref a :: r => (match ai_putf v a ci j ty h with
      | some h1 => k L r h1
      | none => none)
    | _, _ => none)
  | .iaload => (match st with
    | .int i :: .ref a :: r => (match ai_row h a 1 4 with
      | some n => cond (ai_in i n) (k L (.int (h.2.2.2.1 a i.toNatClampNeg) :: r) h) none
      | none => none)
    | _ => none)
  | .baload => (match st with
    | .int i :: .ref a :: r => (match ai_row h a 2 3 with
      | some n => cond (ai_in i n) (k L (.int (h.2.2.2.1 a i.toNatClampNeg) :: r) h) none
      | none => none)
    | _ => none)
  | .iastore => (match st with
    | .int x :: .int i :: .ref a :: r => (match ai_row h a 1 4 with
      | some n => cond (ai_in i n) (k L r (ai_sto a i x h)) none
      | none => none)
    | _ => none)
  | .bastore => (match st with
    | .int x :: .int i :: .ref a :: r => (match ai_row h a 2 3 with
      | some n => cond (ai_in i n) (k L r (ai_sto a i (cond (Nat.beq (ai_kd h a) 2) (vp_nar .byte x) (vp_nar .boolean x)) h)) none
      | none => none)
    | _ => none)
  | .arraylength => (match st with
    | .ref a :: r => (match ai_len h a with
      | some n => k L (.int (Int32.ofNat n) :: r) h
      | none => none)
    | _ => none)
  | .newarray ty => (match op.2.1, st with
    | kd :: _, .int n :: r => cond (ai_in n 1000001 && (ai_nr h.2.1.length L && (ai_nr h.2.1.length r && (Nat.blt h.2.1.length 900 && ai_kt ty kd)))) (k L (.ref h.2.1.length :: r) (ai_mk kd n.toNatClampNeg h)) none
    | _, _ => none)
  | .new _ => (match op.2.1 with
    | ci :: _ => cond (ai_nr h.2.1.length L && (ai_nr h.2.1.length st && Nat.blt h.2.1.length 900)) (k L (.ref h.2.1.length :: st) (ai_ob ci (ai_nf ci) h)) none
    | _ => none)
  | .invokevirtual _ => ai_call rc d mi op.2.1 L st h k
  | .invokestatic _ => ai_call rc d mi op.2.1 L st h k
  | .invokespecial _ => ai_spec rc d mi op.2.1 L st h k
  | _ => none
noncomputable def ai_ops (rc : ai_Rec) (d mi nx : Nat) : List ai_Op → List Value → List Value → ai_Hp → ai_Res
  | [], L, st, h => rc d mi nx L st h
  | op :: ops, L, st, h => ai_step rc d mi op L st h (fun L st h => ai_ops rc d mi nx ops L st h)
noncomputable def ai_blk (rc : ai_Rec) : ai_Rec := fun d mi b L st h => ai_ops rc d mi (ai_code mi b).2.1 (ai_code mi b).1 (ai_msk (ai_code mi b).2.2 L) st h
noncomputable def ai_ex : Nat → ai_Rec
  | 0 => fun _ _ _ _ _ _ => none
  | n + 1 => ai_blk (ai_ex n)
