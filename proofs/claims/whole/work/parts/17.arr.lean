/-! rows, new cells, constants, switches, ends -/
theorem ai_sto_spec {lo : Nat → Nat} {cs : ClassId × ClassId × ClassId} {h : ai_Hp} {a kd n : Nat} {i x : Int32} (ha : h.2.1[a]? = some (kd + 1, n)) : ai_w cs lo (ai_sto a i x h) = (ai_w cs lo h).set a (lo a, .inl (ai_cA cs (kd + 1), n, .inl (upd (h.2.2.2.1 a) i.toNatClampNeg x))) := by
  rw [ai_w_set (h := h) (h1 := ai_sto a i x h) (a := a) (q := (kd + 1, n)) rfl ha (fun k hk => ⟨rfl, ai_up_ne hk, rfl⟩)]
  show (ai_w cs lo h).set a (lo a, .inl (ai_cA cs (kd + 1), n, .inl (ai_up h.2.2.2.1 a i.toNatClampNeg x a))) = _
  rw [ai_up_eq]
theorem ai_St.sto {X : ai_Pk} {G : ai_Pg} {lo : Nat → Nat} {L : List Value} {h : ai_Hp} {ls : Array Slot} {H H1 : Heap} {locs locs1 : List Loc} {cells slots a kd n : Nat} {i x : Int32} (S : ai_St X G lo L h ls H locs cells slots) (ha : h.2.1[a]? = some (kd + 1, n)) (q1 : va_P G.1 ai_cl ((ai_w G.2.1 lo h).set a (lo a, .inl (ai_cA G.2.1 (kd + 1), n, .inl (upd (h.2.2.2.1 a) i.toNatClampNeg x)))) H1) (q2 : va_D G.2.2.2.2.1 ((ai_w G.2.1 lo h).set a (lo a, .inl (ai_cA G.2.1 (kd + 1), n, .inl (upd (h.2.2.2.1 a) i.toNatClampNeg x))))) (q3 : va_S G.2.2.2.2.1 X.2.2.2.2.1.heap H1 locs1) : ai_St X G lo L (ai_sto a i x h) ls H1 locs1 cells slots := by
  rw [← ai_sto_spec ha] at q1 q2
  exact ⟨S.1, ⟨q1, q2, q3⟩, S.2.2.1, S.2.2.2⟩
def ai_arrI : Instr → Bool
  | .iaload | .baload | .iastore | .bastore | .arraylength => true
  | _ => false
set_option maxHeartbeats 4000000 in
theorem ai_snd_arr {X : ai_Pk} {G : ai_Pg} {mi d : Nat} (C : ai_Cx mi d X G) {rc : ai_Rec} {k : ai_K} {op : ai_Op} {pc len : Nat} {L st : List Value} {h : ai_Hp} (hsim : ai_arrI op.1 = true) (hd : decode (ai_bts mi) pc = .ok (op.1, len)) (hc : ai_opk mi pc len op = true)
    (hk : ∀ L' st' h', k L' st' h' = some G.2.2.2.2.2.2.2.1 → ai_K1 X G (pc + len) L' st' h')
    (hs : ai_step rc d mi op L st h k = some G.2.2.2.2.2.2.2.1) : ai_K1 X G pc L st h := by
  obtain ⟨p, l, e, R, s, m, args, below, meth, c⟩ := X
  obtain ⟨D, cs, ad, adV, A, h0, lo0, r, mc, ms, Q⟩ := G
  obtain ⟨⟨hx, hb, -, -, -, -⟩, -, ⟨hK, -⟩, -⟩ := C
  obtain ⟨ins, aux, cv⟩ := op
  dsimp only at hd hs hk
  intro lo ls H locs cells slots S
  obtain ⟨hl, ⟨hP, hD, hS⟩, hE⟩ := id S
  cases ins
  case iaload =>
    obtain rfl := ai_beq (show Nat.beq len 1 = true from hc)
    dsimp only [ai_step] at hs
    split at hs
    · rename_i i a r'
      split at hs
      · rename_i n hr
        cases hi : ai_in i n with
        | false => rw [hi] at hs; cases hs
        | true =>
          rw [hi] at hs
          have hkk := hk _ _ _ hs lo ls H locs cells slots S
          rcases ai_row_spec hr with hq | hq
          · exact va_iald (D := D) (cl := ai_cl) hx hb hK hP a 0 (ai_w_get hq) rfl (ai_in_spec hi) hd hkk
          · exact va_iald (D := D) (cl := ai_cl) hx hb hK hP a 0 (ai_w_get hq) rfl (ai_in_spec hi) hd hkk
      · cases hs
    · cases hs
  case baload =>
    obtain rfl := ai_beq (show Nat.beq len 1 = true from hc)
    dsimp only [ai_step] at hs
    split at hs
    · rename_i i a r'
      split at hs
      · rename_i n hr
        cases hi : ai_in i n with
        | false => rw [hi] at hs; cases hs
        | true =>
          rw [hi] at hs
          have hkk := hk _ _ _ hs lo ls H locs cells slots S
          rcases ai_row_spec hr with hq | hq
          · exact va_bald (D := D) (cl := ai_cl) hx hb hK hP a 1 (ai_w_get hq) rfl (ai_in_spec hi) hd hkk
          · exact va_zald (D := D) (cl := ai_cl) hx hb hK hP a 2 (ai_w_get hq) rfl (ai_in_spec hi) hd hkk
      · cases hs
    · cases hs
  case iastore =>
    obtain rfl := ai_beq (show Nat.beq len 1 = true from hc)
    dsimp only [ai_step] at hs
    split at hs
    · rename_i x i a r'
      split at hs
      · rename_i n hr
        cases hi : ai_in i n with
        | false => rw [hi] at hs; cases hs
        | true =>
          rw [hi] at hs
          rcases ai_row_spec hr with hq | hq
          · exact va_iast (D := D) (cl := ai_cl) hx hb hK hP hD hS a 0 (ai_w_get hq) rfl (ai_in_spec hi) hd (fun H1 locs1 q1 q2 q3 => hk _ _ _ hs lo ls H1 locs1 cells slots (S.sto (kd := 0) hq q1 q2 q3))
          · exact va_iast (D := D) (cl := ai_cl) hx hb hK hP hD hS a 0 (ai_w_get hq) rfl (ai_in_spec hi) hd (fun H1 locs1 q1 q2 q3 => hk _ _ _ hs lo ls H1 locs1 cells slots (S.sto (kd := 3) hq q1 q2 q3))
      · cases hs
    · cases hs
  case bastore =>
    obtain rfl := ai_beq (show Nat.beq len 1 = true from hc)
    dsimp only [ai_step] at hs
    split at hs
    · rename_i x i a r'
      split at hs
      · rename_i n hr
        cases hi : ai_in i n with
        | false => rw [hi] at hs; cases hs
        | true =>
          rw [hi] at hs
          rcases ai_row_spec hr with hq | hq
          · have e : ai_kd h a = 2 := by unfold ai_kd; rw [hq]
            rw [e] at hs
            exact va_bast (D := D) (cl := ai_cl) hx hb hK hP hD hS a 1 (ai_w_get hq) rfl (ai_in_spec hi) hd (fun H1 locs1 q1 q2 q3 => hk _ _ _ hs lo ls H1 locs1 cells slots (S.sto (kd := 1) hq q1 q2 q3))
          · have e : ai_kd h a = 3 := by unfold ai_kd; rw [hq]
            rw [e] at hs
            exact va_zast (D := D) (cl := ai_cl) hx hb hK hP hD hS a 2 (ai_w_get hq) rfl (ai_in_spec hi) hd (fun H1 locs1 q1 q2 q3 => hk _ _ _ hs lo ls H1 locs1 cells slots (S.sto (kd := 2) hq q1 q2 q3))
      · cases hs
    · cases hs
  case arraylength =>
    obtain rfl := ai_beq (show Nat.beq len 1 = true from hc)
    dsimp only [ai_step] at hs
    split at hs
    · rename_i a r'
      split at hs
      · rename_i n hr
        have hkk := hk _ _ _ hs lo ls H locs cells slots S
        unfold ai_len at hr
        cases hq : h.2.1[a]? with
        | none => rw [hq] at hr; cases hr
        | some q =>
          rw [hq] at hr
          obtain ⟨kd, n'⟩ := q
          dsimp only at hr
          cases kd with
          | zero => cases hr
          | succ kd =>
            cases hr
            have hw := ai_w_get (cs := cs) (lo := lo) hq
            match kd, hw with
            | 0, hw => exact va_alen (D := D) (cl := ai_cl) hx hb hK hP a 0 hw rfl rfl hd hkk
            | 1, hw => exact va_alen (D := D) (cl := ai_cl) hx hb hK hP a 1 hw rfl rfl hd hkk
            | 2, hw => exact va_alen (D := D) (cl := ai_cl) hx hb hK hP a 2 hw rfl rfl hd hkk
            | k' + 3, hw => exact va_alen (D := D) (cl := ai_cl) hx hb hK hP a 0 hw rfl rfl hd hkk
      · cases hs
    · cases hs
  all_goals cases hsim
theorem ai_kt_spec {ty : ArrayType} {kd : Nat} (h : ai_kt ty kd = true) : (ty = .int ∧ kd = 1) ∨ (ty = .int ∧ kd = 4) ∨ (ty = .byte ∧ kd = 2) ∨ (ty = .boolean ∧ kd = 3) := by
  cases ty <;> simp only [ai_kt, Bool.or_eq_true] at h
  all_goals first
    | (cases h; done)
    | (rcases h with h | h <;> rw [ai_beq h] <;> simp)
    | (rw [ai_beq h]; simp)
/-- behind a new cell -/
theorem ai_St.mk {X : ai_Pk} {G : ai_Pg} {lo : Nat → Nat} {L : List Value} {h h1 : ai_Hp} {ls : Array Slot} {H H1 : Heap} {locs : List Loc} {cells slots q n : Nat} {kq : Nat × Nat} {en : va_E} (S : ai_St X G lo L h ls H locs cells slots) (hS1 : h1.2.1 = h.2.1 ++ [kq]) (ho : ∀ k, k < h.2.1.length → h1.2.2.1 k = h.2.2.1 k ∧ h1.2.2.2.1 k = h.2.2.2.1 k ∧ h1.2.2.2.2 k = h.2.2.2.2 k) (hR : ∀ k j v, h1.2.2.1 k j = some v → h.2.2.1 k j = some v) (ha : h1.1 = (h.1.1 + 1, h.1.2 + n)) (hnr : ai_nr h.2.1.length L = true)
    (hen : ai_we G.2.1 (fun k => if k = h.2.1.length then q else lo k) h1 h.2.1.length kq = en) (q1 : va_P G.1 ai_cl (ai_w G.2.1 lo h ++ [(q, en)]) H1) (q2 : va_D G.2.2.2.2.1 (ai_w G.2.1 lo h ++ [(q, en)])) (q3 : va_S G.2.2.2.2.1 X.2.2.2.2.1.heap H1 locs) : ai_St X G (fun k => if k = h.2.1.length then q else lo k) L h1 ls H1 locs (cells + 1) (slots + n) := by
  obtain ⟨hl, -, ⟨hok, hsm⟩, hc1, hc2⟩ := S
  subst hen
  rw [← ai_w_push hok hS1 ho] at q1 q2
  refine ⟨?_, ⟨q1, q2, q3⟩, ⟨fun k j v hv => ?_, fun k q' hk hq => ?_⟩, ?_, ?_⟩
  · show lv_has ls L.length (ai_ll _ _ L)
    rw [ai_ll_lo (ai_nr_tv hnr)]
    exact hl
  · have := hok k j v (hR k j v hv)
    rw [hS1, List.length_append]; exact Nat.lt_of_lt_of_le this (Nat.le_add_right _ _)
  · obtain ⟨e1, e2⟩ := hsm k q' hk hq
    have hlt := (List.getElem?_eq_some_iff.mp e1).1
    refine ⟨by rw [hS1, List.getElem?_append_left hlt]; exact e1, ?_⟩
    show (if k = h.2.1.length then q else lo k) = _
    rw [if_neg (Nat.ne_of_lt hlt)]
    exact e2
  · rw [ha]; dsimp only at hc1 ⊢; omega
  · rw [ha]; dsimp only at hc2 ⊢; omega
theorem ai_acl {ty : ArrayType} {kd : Nat} (h : ai_kt ty kd = true) : Cond.arrayClass (newarray.typeOf ty) ∈ ai_tb := by
  have hw := ai_was_in ai_oiw
  rcases ai_kt_spec h with ⟨rfl, rfl⟩ | ⟨rfl, rfl⟩ | ⟨rfl, rfl⟩ | ⟨rfl, rfl⟩
  · exact ai_tb_in (hw _ (by simp [newarray.typeOf]))
  · exact ai_tb_in (hw _ (by simp [newarray.typeOf]))
  · exact ai_tb_in (hw _ (by simp [newarray.typeOf]))
  · exact ai_tb_in (hw _ (by simp [newarray.typeOf]))
theorem ai_newcls {D : va_G} {cs : ClassId × ClassId × ClassId} {s : State} {ty : ArrayType} {kd : Nat} {cA : ClassId} (h : ai_kt ty kd = true) (hK : va_K D ai_cl (ai_tys cs ++ [(cA, newarray.typeOf ty)]) s) : cA = ai_cA cs kd := by
  have h3 := (hK.2 3 (cA, newarray.typeOf ty) rfl).2
  rcases ai_kt_spec h with ⟨rfl, rfl⟩ | ⟨rfl, rfl⟩ | ⟨rfl, rfl⟩ | ⟨rfl, rfl⟩
  · exact Option.some.inj (h3.symm.trans (hK.2 0 _ rfl).2)
  · exact Option.some.inj (h3.symm.trans (hK.2 0 _ rfl).2)
  · exact Option.some.inj (h3.symm.trans (hK.2 1 _ rfl).2)
  · exact Option.some.inj (h3.symm.trans (hK.2 2 _ rfl).2)
set_option maxHeartbeats 4000000 in
theorem ai_snd_newa {X : ai_Pk} {G : ai_Pg} {mi d : Nat} (C : ai_Cx mi d X G) {rc : ai_Rec} {k : ai_K} {ty : ArrayType} {aux : List Nat} {cv : Int32} {pc len : Nat} {L st : List Value} {h : ai_Hp} (hd : decode (ai_bts mi) pc = .ok (.newarray ty, len)) (hc : ai_opk mi pc len (.newarray ty, aux, cv) = true)
    (hk : ∀ L' st' h', k L' st' h' = some G.2.2.2.2.2.2.2.1 → ai_K1 X G (pc + len) L' st' h') (hm : ∀ L' st' h', k L' st' h' = some G.2.2.2.2.2.2.2.1 → h'.1.1 ≤ G.2.2.2.2.2.2.2.1.2.1.1 ∧ h'.1.2 ≤ G.2.2.2.2.2.2.2.1.2.1.2)
    (hs : ai_step rc d mi (.newarray ty, aux, cv) L st h k = some G.2.2.2.2.2.2.2.1) : ai_K1 X G pc L st h := by
  obtain ⟨p, l, e, R, s, m, args, below, meth, c⟩ := X
  obtain ⟨D, cs, ad, adV, A, h0, lo0, r, mc, ms, Q⟩ := G
  obtain ⟨⟨hx, hb, -, -, -, hts⟩, -, ⟨hK, -⟩, ⟨-, -, hrc, hrs⟩, hA, -⟩ := C
  dsimp only at hd hs hk hm
  intro lo ls H locs cells slots S
  obtain ⟨hl, ⟨hP, hD, hS⟩, -, hcl, hsl⟩ := id S
  obtain rfl := ai_beq (show Nat.beq len 2 = true from hc)
  dsimp only [ai_step] at hs
  split at hs
  · rename_i kd tl n r'
    cases hq : (ai_in n 1000001 && (ai_nr h.2.1.length L && (ai_nr h.2.1.length r' && (Nat.blt h.2.1.length 900 && ai_kt ty kd)))) with
    | false => rw [hq] at hs; cases hs
    | true =>
      rw [hq] at hs
      simp only [Bool.and_eq_true] at hq
      obtain ⟨q1, q2, q3, -, q5⟩ := hq
      have hin := vp_in_iff.mp (ai_in_spec q1)
      have hm1 := hm _ _ _ hs
      have hn0 : ¬ n < 0 := by rw [Int32.not_lt, Int32.le_iff_toInt_le]; exact hin.1
      have hnc : n.toNatClampNeg ≤ 1000000 := by
        show n.toInt.toNat ≤ 1000000
        omega
      have hmk1 : h.1.1 + 1 ≤ r.2.1.1 := hm1.1
      have hmk2 : h.1.2 + n.toNatClampNeg ≤ r.2.1.2 := hm1.2
      have hbytes : n.toNatClampNeg * componentBytes (newarray.typeOf ty) ≤ 536870912 := by
        have : componentBytes (newarray.typeOf ty) ≤ 8 := by
          rcases ai_kt_spec q5 with ⟨rfl, rfl⟩ | ⟨rfl, rfl⟩ | ⟨rfl, rfl⟩ | ⟨rfl, rfl⟩ <;> decide
        have := Nat.mul_le_mul hnc this
        omega
      have hdef : ∀ cA : ClassId, vp_cell cA (n.toNatClampNeg, .inl (fun _ => 0)) = arrV cA n.toNatClampNeg (fun _ => defaultValue (newarray.typeOf ty)) := by
        intro cA
        rcases ai_kt_spec q5 with ⟨rfl, rfl⟩ | ⟨rfl, rfl⟩ | ⟨rfl, rfl⟩ | ⟨rfl, rfl⟩ <;> rfl
      refine va_newa (D := D) (cl := ai_cl) (a0 := (n.toNatClampNeg, .inl (fun _ => 0))) hx hb (hts _ (ai_acl q5)) rfl hK hP hD hS hA hdef hn0 rfl hbytes (by omega) (by omega) hd (fun q cA H1 g1 g2 g3 g4 => ?_)
      obtain rfl := ai_newcls q5 g1
      have hkd : ∃ k', kd = k' + 1 := by
        rcases ai_kt_spec q5 with ⟨rfl, rfl⟩ | ⟨rfl, rfl⟩ | ⟨rfl, rfl⟩ | ⟨rfl, rfl⟩ <;> exact ⟨_, rfl⟩
      obtain ⟨k', rfl⟩ := hkd
      have hkk := hk _ _ _ hs (fun k => if k = h.2.1.length then q else lo k) ls H1 locs (cells + 1) (slots + n.toNatClampNeg) (S.mk (kq := (k' + 1, n.toNatClampNeg)) (h1 := ai_mk (k' + 1) n.toNatClampNeg h) rfl (fun k hk => ⟨rfl, by simp [ai_mk, Nat.ne_of_lt hk], rfl⟩) (fun _ _ _ hv => hv) rfl q2 (by simp [ai_we, ai_mk]) g2 g3 g4)
      rw [List.map_cons, ai_map_tv (ai_nr_tv q3)] at hkk
      simp only [ai_tv, if_pos] at hkk
      exact hkk
  · cases hs
