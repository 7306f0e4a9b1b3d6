/-! what stands fixed while a method is walked -/
def ai_tb : List Cond := lw_tbl.filter goodWord
theorem ai_tb_in {w : Cond} (h : w ∈ lw_tbl ∧ goodWord w = true) : w ∈ ai_tb := List.mem_filter.mpr h
theorem ai_tb_good : GoodIn ai_tb ai_tb := fun _ h => ⟨h, good_of_word (List.mem_filter.mp h).2⟩
def ai_tys (cs : ClassId × ClassId × ClassId) : List (ClassId × FieldType) := [(cs.1, .int), (cs.2.1, .byte), (cs.2.2, .boolean)]
def ai_nws : List Cond := (ai_flt.filter (fun r => r.2.2.2.2.1)).map ai_fw ++ (ai_mlt.filter (fun r => r.2.2.2.2.2.2.1)).map (fun r => (ai_mw r).headD .tt)
def ai_Ns (U : State) : Prop := ∀ w ∈ ai_nws, va_Nw w U
def ai_byt : List (List Int32) := [[114, 97, 110, 107], [109, 111, 117, 116, 104, 115], [104, 111, 114, 115, 101, 115], [100, 97, 121], [109, 117, 100], [102, 101, 97, 115, 116], [119, 104, 101, 110], [97, 110, 100], [101, 97, 116, 115], [102, 101, 101, 100, 115]]
def ai_lns : List Nat := [4, 6, 6, 3, 3, 5, 4, 3, 4, 5]
def ai_skk (ad : Nat → Nat) (j : Nat) : Nat := ad (((ai_stk[j]?).map (fun r => r.2.2.1)).getD 0)
def ai_SR (ad : Nat → Nat) (U : State) : Prop := ∀ (j : Nat) (r : String × Nat × Nat × String × Nat), ai_stk[j]? = some r → vk_R r.1 r.2.1 r.2.2.2.1 (ai_skk ad j) U
def ai_Zs (A : Nat → Prop) (U : State) (H : Heap) : Prop := va_Z "java/lang/String" "COMPACT_STRINGS" "Z" (.int 1) A U H ∧ va_Zq "java/lang/Throwable" "UNASSIGNED_STACK" "[Ljava/lang/StackTraceElement;" A U H ∧ va_Zq "java/lang/Throwable" "SUPPRESSED_SENTINEL" "Ljava/util/List;" A U H ∧ va_Zq "jdk/internal/util/Preconditions" "SIOOBE_FORMATTER" "Ljava/util/function/BiFunction;" A U H
def ai_Sta (D : va_G) (cs : ClassId × ClassId × ClassId) (ad adV : Nat → Nat) (A : Nat → Prop) (U : State) : Prop := va_K D ai_cl (ai_tys cs) U ∧ ai_Ns U ∧ ai_SR ad U ∧ vk_S 10 ai_lns ai_byt ad adV A U U.heap ∧ ai_Zs A U U.heap
/-- program, launch, environment, room, the method's first state, its place, its arguments, frames below, the method, its code -/
abbrev ai_Pk : Type := Program × Launch × Env × Room × State × MethodId × Array Value × List Frame × Method × Code
/-- classes and slots, the arrays' classes, the strings, their bytes, the cells that may change, the first heap and its placing, the end, what is made, what is to be -/
abbrev ai_Pg : Type := va_G × (ClassId × ClassId × ClassId) × (Nat → Nat) × (Nat → Nat) × (Nat → Prop) × ai_Hp × (Nat → Nat) × ((Option Value ⊕ Nat) × ai_Hp) × Nat × Nat × (State → Prop)
def ai_Cx (mi d : Nat) : ai_Pk → ai_Pg → Prop
  | (p, _, _, R, s, m, args, _, meth, c), (D, cs, ad, adV, A, _, _, _, mc, ms, _) => (p.tables.exec = Jvm.exec ∧ c.code = ai_bts mi ∧ meth.sig.returnType = ai_ret mi ∧ c.maxLocals = ai_mx mi ∧ s.vm.findClass (ai_own mi) = some m.cls ∧ (∀ w ∈ ai_tb, w.before args s = true)) ∧ (meth.locks = false ∧ meth.name = (ai_rw mi).1.name ∧ (mi ≠ 174 → c.exceptionTable.toList = []) ∧ (mi = 174 → c.exceptionTable.toList.map (fun h => (h.startPc, h.endPc, h.handlerPc, h.catchType)) = [(50, 54, 57, 86)])) ∧ ai_Sta D cs ad adV A s ∧ (d + 10 ≤ R.frames ∧ 60 * d + 400 ≤ R.locals ∧ mc ≤ R.cells ∧ ms ≤ R.slots) ∧ (∀ q, s.heap.size ≤ q → A q) ∧ mi < 216
def ai_St : ai_Pk → ai_Pg → (Nat → Nat) → List Value → ai_Hp → Array Slot → Heap → List Loc → Nat → Nat → Prop
  | (_, _, _, _, s, _, _, _, _, _), (D, cs, ad, _, A, h0, lo0, r, mc, ms, _), lo, L, h, ls, H, locs, cells, slots => ai_lr lo (ai_skk ad) ls L ∧ (va_P D ai_cl (ai_w cs lo h) H ∧ va_D A (ai_w cs lo h) ∧ va_S A s.heap H locs) ∧ (ai_ok h ∧ ai_sm h0 lo0 h lo) ∧ (cells + r.2.1.1 = mc + h.1.1 ∧ slots + r.2.1.2 = ms + h.1.2)
def ai_K1 : ai_Pk → ai_Pg → Nat → List Value → List Value → ai_Hp → Prop
  | (p, l, e, R, s, m, args, below, meth, c), (D, cs, ad, adV, A, h0, lo0, r, mc, ms, Q), pc, L, st, h => ∀ (lo : Nat → Nat) (ls : Array Slot) (H : Heap) (locs : List Loc) (cells slots : Nat), ai_St (p, l, e, R, s, m, args, below, meth, c) (D, cs, ad, adV, A, h0, lo0, r, mc, ms, Q) lo L h ls H locs cells slots → W p l e R s m args below meth c H locs cells slots Q (F0 m pc ls (st.map (ai_tv lo (ai_skk ad))))
theorem ai_St.st {X : ai_Pk} {G : ai_Pg} {lo : Nat → Nat} {L L' : List Value} {h : ai_Hp} {ls ls' : Array Slot} {H : Heap} {locs : List Loc} {cells slots : Nat} (S : ai_St X G lo L h ls H locs cells slots) (hl : ai_lr lo (ai_skk G.2.2.1) ls' L') : ai_St X G lo L' h ls' H locs cells slots := ⟨hl, S.2⟩
theorem ai_beq {a b : Nat} (h : Nat.beq a b = true) : a = b := Nat.eq_of_beq_eq_true h
section AOP
variable {p : Program} {l : Launch} {e : Env} {R : Room} {s : State} {m : MethodId} {args : Array Value} {below : List Frame} {meth : Method} {c : Code} {H : Heap} {locs : List Loc} {cells slots : Nat} {Q : State → Prop}
variable {cc : ByteArray} {pc : Nat} {ls : Array Slot} {rest : List Value}
theorem ai_aload (hexec : p.tables.exec = Jvm.exec) (hb : c.code = cc) {i : Nat} {v : Value} (hv : v.isRef = true) (hdg : decode cc pc = .ok (.aload i, 2)) (hl : ls[i]? = some (.val v))
    (k : W p l e R s m args below meth c H locs cells slots Q (F0 m (pc + 2) ls (v :: rest))) : W p l e R s m args below meth c H locs cells slots Q (F0 m pc ls rest) := by
  intro T hT X
  obtain ⟨t, a, b⟩ := k T hT X
  refine ⟨t, ?_, b⟩
  jvm_step X.here [X.here.top, hexec, hb, hdg, hl, hv]
  exact a
theorem ai_aload_n (hexec : p.tables.exec = Jvm.exec) (hb : c.code = cc) {i : Fin 4} {v : Value} (hv : v.isRef = true) (hdg : decode cc pc = .ok (.aload_n i, 1)) (hl : ls[i.val]? = some (.val v))
    (k : W p l e R s m args below meth c H locs cells slots Q (F0 m (pc + 1) ls (v :: rest))) : W p l e R s m args below meth c H locs cells slots Q (F0 m pc ls rest) := by
  intro T hT X
  obtain ⟨t, a, b⟩ := k T hT X
  refine ⟨t, ?_, b⟩
  jvm_step X.here [X.here.top, hexec, hb, hdg, hl, hv]
  exact a
end AOP
def ai_simple : Instr → Bool
  | .getfield _ | .putfield _ | .iaload | .baload | .iastore | .bastore | .arraylength | .newarray _ | .new _ | .invokevirtual _ | .invokestatic _ | .invokespecial _ | .ireturn | .lreturn | .areturn | .return_ | .athrow | .ldc _ | .ldc_w _ | .ldc2_w _ | .tableswitch .. | .lookupswitch .. => false
  | _ => true
set_option maxHeartbeats 4000000 in
/-- instructions that touch locals and stack alone -/
theorem ai_snd1 {X : ai_Pk} {G : ai_Pg} {mi d : Nat} (C : ai_Cx mi d X G) {rc : ai_Rec} {k : ai_K} {op : ai_Op} {pc len : Nat} {L st : List Value} {h : ai_Hp} (hsim : ai_simple op.1 = true) (hd : decode (ai_bts mi) pc = .ok (op.1, len)) (hc : ai_opk mi pc len op = true)
    (hk : ∀ L' st' h', k L' st' h' = some G.2.2.2.2.2.2.2.1 → ai_K1 X G (pc + len) L' st' h') (hrc : ∀ b L' st' h', rc d mi b L' st' h' = some G.2.2.2.2.2.2.2.1 → ai_K1 X G (ai_pc mi b) L' st' h')
    (hs : ai_step rc d mi op L st h k = some G.2.2.2.2.2.2.2.1) : ai_K1 X G pc L st h := by
  obtain ⟨p, l, e, R, s, m, args, below, meth, c⟩ := X
  obtain ⟨D, cs, ad, adV, A, h0, lo0, r, mc, ms, Q⟩ := G
  obtain ⟨⟨hx, hb, -, -, -, -⟩, -⟩ := C
  obtain ⟨ins, aux, cv⟩ := op
  dsimp only at hd hs hk hrc
  intro lo ls H locs cells slots S
  have hl := S.1
  cases ins
  case iconst n =>
    simp only [ai_opk, Bool.and_eq_true, decide_eq_true_eq] at hc
    obtain ⟨hl1, hv⟩ := hc
    obtain rfl := ai_beq hl1
    dsimp only [ai_step] at hs
    exact lv_iconst hx hb hd hv (hk _ _ _ hs lo ls H locs cells slots S)
  case bipush n =>
    simp only [ai_opk, Bool.and_eq_true, decide_eq_true_eq] at hc
    obtain ⟨hl1, hv⟩ := hc
    obtain rfl := ai_beq hl1
    dsimp only [ai_step] at hs
    exact lv_bipush hx hb hd hv (hk _ _ _ hs lo ls H locs cells slots S)
  case sipush n =>
    simp only [ai_opk, Bool.and_eq_true, decide_eq_true_eq] at hc
    obtain ⟨hl1, hv⟩ := hc
    obtain rfl := ai_beq hl1
    dsimp only [ai_step] at hs
    exact lv_sipush hx hb hd hv (hk _ _ _ hs lo ls H locs cells slots S)
  case lconst n =>
    obtain rfl := ai_beq (show Nat.beq len 1 = true from hc)
    dsimp only [ai_step] at hs
    exact lv_lconst hx hb hd rfl (hk _ _ _ hs lo ls H locs cells slots S)
  case aconst_null =>
    obtain rfl := ai_beq (show Nat.beq len 1 = true from hc)
    dsimp only [ai_step] at hs
    exact lv_null hx hb hd (hk _ _ _ hs lo ls H locs cells slots S)
  case iload i =>
    obtain rfl := ai_beq (show Nat.beq len 2 = true from hc)
    dsimp only [ai_step] at hs
    unfold ai_ldI at hs
    split at hs
    · rename_i x hq
      exact lv_iload hx hb hd (hl.at hq (fun h => by cases h)) (hk _ _ _ hs lo ls H locs cells slots S)
    · cases hs
  case iload_n i =>
    obtain rfl := ai_beq (show Nat.beq len 1 = true from hc)
    dsimp only [ai_step] at hs
    unfold ai_ldI at hs
    split at hs
    · rename_i x hq
      exact lv_iload_n hx hb hd rfl (hl.at hq (fun h => by cases h)) (hk _ _ _ hs lo ls H locs cells slots S)
    · cases hs
  case lload i =>
    obtain rfl := ai_beq (show Nat.beq len 2 = true from hc)
    dsimp only [ai_step] at hs
    unfold ai_ldL at hs
    split at hs
    · rename_i x hq
      exact lv_lload hx hb hd (hl.at hq (fun h => by cases h)) (hk _ _ _ hs lo ls H locs cells slots S)
    · cases hs
  case lload_n i =>
    obtain rfl := ai_beq (show Nat.beq len 1 = true from hc)
    dsimp only [ai_step] at hs
    unfold ai_ldL at hs
    split at hs
    · rename_i x hq
      exact lv_lload_n hx hb hd rfl (hl.at hq (fun h => by cases h)) (hk _ _ _ hs lo ls H locs cells slots S)
    · cases hs
  case aload i =>
    obtain rfl := ai_beq (show Nat.beq len 2 = true from hc)
    dsimp only [ai_step] at hs
    unfold ai_ldA at hs
    split at hs
    · rename_i x hq
      exact ai_aload hx hb rfl hd (hl.at hq (fun h => by cases h)) (hk _ _ _ hs lo ls H locs cells slots S)
    · rename_i hq
      exact ai_aload hx hb rfl hd (hl.at hq (fun h => by cases h)) (hk _ _ _ hs lo ls H locs cells slots S)
    · rename_i j hq
      exact ai_aload hx hb rfl hd (hl.at hq (fun h => by cases h)) (hk _ _ _ hs lo ls H locs cells slots S)
    · cases hs
  case aload_n i =>
    obtain rfl := ai_beq (show Nat.beq len 1 = true from hc)
    dsimp only [ai_step] at hs
    unfold ai_ldA at hs
    split at hs
    · rename_i x hq
      exact ai_aload_n hx hb rfl hd (hl.at hq (fun h => by cases h)) (hk _ _ _ hs lo ls H locs cells slots S)
    · rename_i hq
      exact ai_aload_n hx hb rfl hd (hl.at hq (fun h => by cases h)) (hk _ _ _ hs lo ls H locs cells slots S)
    · rename_i j hq
      exact ai_aload_n hx hb rfl hd (hl.at hq (fun h => by cases h)) (hk _ _ _ hs lo ls H locs cells slots S)
    · cases hs
  case istore i =>
    obtain rfl := ai_beq (show Nat.beq len 2 = true from hc)
    dsimp only [ai_step] at hs
    unfold ai_stI at hs
    split at hs
    · rename_i x rr
      cases hb1 : Nat.blt i L.length with
      | false => rw [hb1] at hs; cases hs
      | true =>
        rw [hb1] at hs
        have hi : i < L.length := Nat.blt_eq.mp hb1
        exact lv_istore hx hb hd hl hi rfl (fun ls1 h1 => hk _ _ _ hs lo ls1 H locs cells slots ⟨ai_lr.set1 hi h1, S.2⟩)
    · cases hs
  case istore_n i =>
    obtain rfl := ai_beq (show Nat.beq len 1 = true from hc)
    dsimp only [ai_step] at hs
    unfold ai_stI at hs
    split at hs
    · rename_i x rr
      cases hb1 : Nat.blt i.val L.length with
      | false => rw [hb1] at hs; cases hs
      | true =>
        rw [hb1] at hs
        have hi : i.val < L.length := Nat.blt_eq.mp hb1
        exact lv_istore_n hx hb hd rfl hl hi rfl (fun ls1 h1 => hk _ _ _ hs lo ls1 H locs cells slots ⟨ai_lr.set1 hi h1, S.2⟩)
    · cases hs
  case astore i =>
    obtain rfl := ai_beq (show Nat.beq len 2 = true from hc)
    dsimp only [ai_step] at hs
    unfold ai_stA at hs
    split at hs
    · rename_i x rr
      cases hb1 : Nat.blt i L.length with
      | false => rw [hb1] at hs; cases hs
      | true =>
        rw [hb1] at hs
        have hi : i < L.length := Nat.blt_eq.mp hb1
        exact lv_astore hx hb hd hl hi rfl (fun ls1 h1 => hk _ _ _ hs lo ls1 H locs cells slots ⟨ai_lr.set1 hi h1, S.2⟩)
    · cases hs
  case astore_n i =>
    obtain rfl := ai_beq (show Nat.beq len 1 = true from hc)
    dsimp only [ai_step] at hs
    unfold ai_stA at hs
    split at hs
    · rename_i x rr
      cases hb1 : Nat.blt i.val L.length with
      | false => rw [hb1] at hs; cases hs
      | true =>
        rw [hb1] at hs
        have hi : i.val < L.length := Nat.blt_eq.mp hb1
        exact lv_astore_n hx hb hd rfl hl hi rfl (fun ls1 h1 => hk _ _ _ hs lo ls1 H locs cells slots ⟨ai_lr.set1 hi h1, S.2⟩)
    · cases hs
  case lstore i =>
    obtain rfl := ai_beq (show Nat.beq len 2 = true from hc)
    dsimp only [ai_step] at hs
    unfold ai_stL at hs
    split at hs
    · rename_i x rr
      cases hb1 : Nat.blt (i + 1) L.length with
      | false => rw [hb1] at hs; cases hs
      | true =>
        rw [hb1] at hs
        have hi : i + 1 < L.length := Nat.blt_eq.mp hb1
        exact lv_lstore hx hb hd hl hi rfl (fun ls1 h1 => hk _ _ _ hs lo ls1 H locs cells slots ⟨ai_lr.set2 hi h1, S.2⟩)
    · cases hs
  case lstore_n i =>
    obtain rfl := ai_beq (show Nat.beq len 1 = true from hc)
    dsimp only [ai_step] at hs
    unfold ai_stL at hs
    split at hs
    · rename_i x rr
      cases hb1 : Nat.blt (i.val + 1) L.length with
      | false => rw [hb1] at hs; cases hs
      | true =>
        rw [hb1] at hs
        have hi : i.val + 1 < L.length := Nat.blt_eq.mp hb1
        exact lv_lstore_n hx hb hd rfl hl hi rfl (fun ls1 h1 => hk _ _ _ hs lo ls1 H locs cells slots ⟨ai_lr.set2 hi h1, S.2⟩)
    · cases hs
  case iinc i n =>
    simp only [ai_opk, Bool.and_eq_true, decide_eq_true_eq] at hc
    obtain ⟨hl1, hv⟩ := hc
    obtain rfl := ai_beq hl1
    dsimp only [ai_step] at hs
    split at hs
    · rename_i x hq
      have hi : i < L.length := (List.getElem?_eq_some_iff.mp hq).1
      obtain ⟨kk, hkk⟩ := List.getElem?_of_mem (ai_ll_in (lo := lo) (sk := ai_skk ad) hq (fun h => by cases h))
      exact lv_iinc hx hb hd hl hkk (by rw [hv]) hi rfl (fun ls1 h1 => hk _ _ _ hs lo ls1 H locs cells slots ⟨ai_lr.set1 hi h1, S.2⟩)
    · cases hs
  case iadd =>
    obtain rfl := ai_beq (show Nat.beq len 1 = true from hc)
    dsimp only [ai_step] at hs
    unfold ai_bin at hs
    split at hs
    · exact lv_iadd hx hb hd (hk _ _ _ hs lo ls H locs cells slots S)
    · cases hs
  case isub =>
    obtain rfl := ai_beq (show Nat.beq len 1 = true from hc)
    dsimp only [ai_step] at hs
    unfold ai_bin at hs
    split at hs
    · exact lv_isub hx hb hd (hk _ _ _ hs lo ls H locs cells slots S)
    · cases hs
  case imul =>
    obtain rfl := ai_beq (show Nat.beq len 1 = true from hc)
    dsimp only [ai_step] at hs
    unfold ai_bin at hs
    split at hs
    · exact lv_imul hx hb hd (hk _ _ _ hs lo ls H locs cells slots S)
    · cases hs
  case iand =>
    obtain rfl := ai_beq (show Nat.beq len 1 = true from hc)
    dsimp only [ai_step] at hs
    unfold ai_bin at hs
    split at hs
    · exact lv_iand hx hb hd (hk _ _ _ hs lo ls H locs cells slots S)
    · cases hs
  case ior =>
    obtain rfl := ai_beq (show Nat.beq len 1 = true from hc)
    dsimp only [ai_step] at hs
    unfold ai_bin at hs
    split at hs
    · exact lv_ior hx hb hd (hk _ _ _ hs lo ls H locs cells slots S)
    · cases hs
  case ixor =>
    obtain rfl := ai_beq (show Nat.beq len 1 = true from hc)
    dsimp only [ai_step] at hs
    unfold ai_bin at hs
    split at hs
    · exact lv_ixor hx hb hd (hk _ _ _ hs lo ls H locs cells slots S)
    · cases hs
  case ishl =>
    obtain rfl := ai_beq (show Nat.beq len 1 = true from hc)
    dsimp only [ai_step] at hs
    unfold ai_bin at hs
    split at hs
    · exact lv_ishl hx hb hd (hk _ _ _ hs lo ls H locs cells slots S)
    · cases hs
  case ishr =>
    obtain rfl := ai_beq (show Nat.beq len 1 = true from hc)
    dsimp only [ai_step] at hs
    unfold ai_bin at hs
    split at hs
    · exact lv_ishr hx hb hd (hk _ _ _ hs lo ls H locs cells slots S)
    · cases hs
  case iushr =>
    obtain rfl := ai_beq (show Nat.beq len 1 = true from hc)
    dsimp only [ai_step] at hs
    unfold ai_bin at hs
    split at hs
    · exact lv_iushr hx hb hd rfl (hk _ _ _ hs lo ls H locs cells slots S)
    · cases hs
  case idiv =>
    obtain rfl := ai_beq (show Nat.beq len 1 = true from hc)
    dsimp only [ai_step] at hs
    split at hs
    · split at hs
      · cases hs
      · rename_i hy
        exact lv_idiv hx hb hd hy (hk _ _ _ hs lo ls H locs cells slots S)
    · cases hs
  case irem =>
    obtain rfl := ai_beq (show Nat.beq len 1 = true from hc)
    dsimp only [ai_step] at hs
    split at hs
    · split at hs
      · cases hs
      · rename_i hy
        exact lv_irem hx hb hd hy (hk _ _ _ hs lo ls H locs cells slots S)
    · cases hs
  case ineg =>
    obtain rfl := ai_beq (show Nat.beq len 1 = true from hc)
    dsimp only [ai_step] at hs
    unfold ai_un1 at hs
    split at hs
    · exact lv_ineg hx hb hd (hk _ _ _ hs lo ls H locs cells slots S)
    · cases hs
  case i2l =>
    obtain rfl := ai_beq (show Nat.beq len 1 = true from hc)
    dsimp only [ai_step] at hs
    unfold ai_un1 at hs
    split at hs
    · exact lv_i2l hx hb hd rfl (hk _ _ _ hs lo ls H locs cells slots S)
    · cases hs
  case i2b =>
    obtain rfl := ai_beq (show Nat.beq len 1 = true from hc)
    dsimp only [ai_step] at hs
    unfold ai_un1 at hs
    split at hs
    · exact lv_i2b hx hb hd rfl (hk _ _ _ hs lo ls H locs cells slots S)
    · cases hs
  case l2i =>
    obtain rfl := ai_beq (show Nat.beq len 1 = true from hc)
    dsimp only [ai_step] at hs
    split at hs
    · exact lv_l2i hx hb hd rfl (hk _ _ _ hs lo ls H locs cells slots S)
    · cases hs
  case ladd =>
    obtain rfl := ai_beq (show Nat.beq len 1 = true from hc)
    dsimp only [ai_step] at hs
    unfold ai_binL at hs
    split at hs
    · exact lv_ladd hx hb hd (hk _ _ _ hs lo ls H locs cells slots S)
    · cases hs
  case lmul =>
    obtain rfl := ai_beq (show Nat.beq len 1 = true from hc)
    dsimp only [ai_step] at hs
    unfold ai_binL at hs
    split at hs
    · exact lv_lmul hx hb hd (hk _ _ _ hs lo ls H locs cells slots S)
    · cases hs
  case lcmp =>
    obtain rfl := ai_beq (show Nat.beq len 1 = true from hc)
    dsimp only [ai_step] at hs
    split at hs
    · exact W.lcmp hx hb hd (hk _ _ _ hs lo ls H locs cells slots S)
    · cases hs
  case dup =>
    obtain rfl := ai_beq (show Nat.beq len 1 = true from hc)
    dsimp only [ai_step] at hs
    split at hs
    · exact lv_dup hx hb hd rfl (hk _ _ _ hs lo ls H locs cells slots S)
    · exact lv_dup hx hb hd rfl (hk _ _ _ hs lo ls H locs cells slots S)
    · cases hs
  case dup2 =>
    obtain rfl := ai_beq (show Nat.beq len 1 = true from hc)
    dsimp only [ai_step] at hs
    split at hs
    · exact lv_dup2_11 hx hb hd rfl rfl (hk _ _ _ hs lo ls H locs cells slots S)
    · cases hs
  case ifCond cd off =>
    simp only [ai_opk, Bool.and_eq_true, ai_tgt, decide_eq_true_eq] at hc
    obtain ⟨hl1, hv⟩ := hc
    obtain rfl := ai_beq hl1
    dsimp only [ai_step] at hs
    split at hs
    · cases cd with
      | eq => exact lv_if_eq hx hb hd hv (fun q => by simp only [ai_br, if_pos q] at hs; exact hrc _ _ _ _ hs lo ls H locs cells slots S) (fun q => by simp only [ai_br, if_neg q] at hs; exact hk _ _ _ hs lo ls H locs cells slots S)
      | ne => exact lv_if_ne hx hb hd hv (fun q => by simp only [ai_br, if_neg q] at hs; exact hrc _ _ _ _ hs lo ls H locs cells slots S) (fun q => by simp only [ai_br, if_pos q] at hs; exact hk _ _ _ hs lo ls H locs cells slots S)
      | lt => exact lv_if_lt hx hb hd hv (fun q => by simp only [ai_br, if_pos q] at hs; exact hrc _ _ _ _ hs lo ls H locs cells slots S) (fun q => by simp only [ai_br, if_neg q] at hs; exact hk _ _ _ hs lo ls H locs cells slots S)
      | ge => exact lv_if_ge hx hb hd hv (fun q => by simp only [ai_br, if_pos q] at hs; exact hrc _ _ _ _ hs lo ls H locs cells slots S) (fun q => by simp only [ai_br, if_neg q] at hs; exact hk _ _ _ hs lo ls H locs cells slots S)
      | gt => exact lv_if_gt hx hb hd hv (fun q => by simp only [ai_br, if_pos q] at hs; exact hrc _ _ _ _ hs lo ls H locs cells slots S) (fun q => by simp only [ai_br, if_neg q] at hs; exact hk _ _ _ hs lo ls H locs cells slots S)
      | le => exact lv_if_le hx hb hd hv (fun q => by simp only [ai_br, if_pos q] at hs; exact hrc _ _ _ _ hs lo ls H locs cells slots S) (fun q => by simp only [ai_br, if_neg q] at hs; exact hk _ _ _ hs lo ls H locs cells slots S)
    · cases hs
  case if_icmp cd off =>
    simp only [ai_opk, Bool.and_eq_true, ai_tgt, decide_eq_true_eq] at hc
    obtain ⟨hl1, hv⟩ := hc
    obtain rfl := ai_beq hl1
    dsimp only [ai_step] at hs
    split at hs
    · cases cd with
      | eq => exact lv_icmp_eq hx hb hd hv (fun q => by simp only [ai_br, if_pos q] at hs; exact hrc _ _ _ _ hs lo ls H locs cells slots S) (fun q => by simp only [ai_br, if_neg q] at hs; exact hk _ _ _ hs lo ls H locs cells slots S)
      | ne => exact lv_icmp_ne hx hb hd hv (fun q => by simp only [ai_br, if_neg q] at hs; exact hrc _ _ _ _ hs lo ls H locs cells slots S) (fun q => by simp only [ai_br, if_pos q] at hs; exact hk _ _ _ hs lo ls H locs cells slots S)
      | lt => exact lv_icmp_lt hx hb hd hv (fun q => by simp only [ai_br, if_pos q] at hs; exact hrc _ _ _ _ hs lo ls H locs cells slots S) (fun q => by simp only [ai_br, if_neg q] at hs; exact hk _ _ _ hs lo ls H locs cells slots S)
      | ge => exact lv_icmp_ge hx hb hd hv (fun q => by simp only [ai_br, if_pos q] at hs; exact hrc _ _ _ _ hs lo ls H locs cells slots S) (fun q => by simp only [ai_br, if_neg q] at hs; exact hk _ _ _ hs lo ls H locs cells slots S)
      | gt => exact lv_icmp_gt hx hb hd hv (fun q => by simp only [ai_br, if_pos q] at hs; exact hrc _ _ _ _ hs lo ls H locs cells slots S) (fun q => by simp only [ai_br, if_neg q] at hs; exact hk _ _ _ hs lo ls H locs cells slots S)
      | le => exact lv_icmp_le hx hb hd hv (fun q => by simp only [ai_br, if_pos q] at hs; exact hrc _ _ _ _ hs lo ls H locs cells slots S) (fun q => by simp only [ai_br, if_neg q] at hs; exact hk _ _ _ hs lo ls H locs cells slots S)
    · cases hs
  case goto off =>
    simp only [ai_opk, Bool.and_eq_true, ai_tgt, decide_eq_true_eq] at hc
    obtain ⟨hl1, hv⟩ := hc
    obtain rfl := ai_beq hl1
    dsimp only [ai_step] at hs
    exact lv_goto hx hb hd hv (hrc _ _ _ _ hs lo ls H locs cells slots S)
  all_goals first
    | (cases hsim; done)
    | (cases hs; done)
