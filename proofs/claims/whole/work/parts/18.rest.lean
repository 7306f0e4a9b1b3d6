/-! objects made, constants, switches, ends -/
theorem ai_clt_spec {mi i ci : Nat} (h : (ai_clt.map fun r => (r.1, r.2.1, r.2.2.1)).contains (ai_own mi, i, ci) = true) : ∀ (C : String) (T : u_T) (N : Nat), ai_C ci = (C, T, N) → Cond.classLink (ai_own mi) i C ∈ ai_tb ∧ Cond.instantiable C N ∈ ai_tb ∧ Cond.initialized C ∈ ai_tb := by
  intro C T N hC
  obtain ⟨r, hr, he⟩ := List.mem_map.mp (List.contains_iff_mem.mp h)
  have hw := ai_was_in (List.all_eq_true.mp ai_clt_ok r hr)
  simp only [Prod.mk.injEq] at he
  obtain ⟨e1, e2, e3⟩ := he
  unfold ai_cw at hw
  rw [e3, hC, e1, e2] at hw
  exact ⟨ai_tb_in (hw _ (by simp)), ai_tb_in (hw _ (by simp)), ai_tb_in (hw _ (by simp))⟩
set_option maxHeartbeats 4000000 in
theorem ai_snd_new {X : ai_Pk} {G : ai_Pg} {mi d : Nat} (C : ai_Cx mi d X G) {rc : ai_Rec} {k : ai_K} {i : Nat} {aux : List Nat} {cv : Int32} {pc len : Nat} {L st : List Value} {h : ai_Hp} (hd : decode (ai_bts mi) pc = .ok (.new i, len)) (hc : ai_opk mi pc len (.new i, aux, cv) = true)
    (hk : ∀ L' st' h', k L' st' h' = some G.2.2.2.2.2.2.2.1 → ai_K1 X G (pc + len) L' st' h') (hm : ∀ L' st' h', k L' st' h' = some G.2.2.2.2.2.2.2.1 → h'.1.1 ≤ G.2.2.2.2.2.2.2.1.2.1.1 ∧ h'.1.2 ≤ G.2.2.2.2.2.2.2.1.2.1.2)
    (hs : ai_step rc d mi (.new i, aux, cv) L st h k = some G.2.2.2.2.2.2.2.1) : ai_K1 X G pc L st h := by
  obtain ⟨p, l, e, R, s, m, args, below, meth, c⟩ := X
  obtain ⟨D, cs, ad, adV, A, h0, lo0, r, mc, ms, Q⟩ := G
  obtain ⟨⟨hx, hb, -, -, hown, hts⟩, -, ⟨hK, -⟩, ⟨-, -, hrc, hrs⟩, hA, -⟩ := C
  dsimp only at hd hs hk hm
  intro lo ls H locs cells slots S
  obtain ⟨hl, ⟨hP, hD, hS⟩, -, hcl, hsl⟩ := id S
  simp only [ai_opk, Bool.and_eq_true] at hc
  obtain rfl := ai_beq hc.1
  have hc2 := hc.2
  dsimp only [ai_step] at hs
  split at hc2
  · rename_i ci
    simp only [Bool.and_eq_true] at hc2
    have hci := Nat.blt_eq.mp hc2.1
    obtain ⟨CC, T, N, ty, g1, g2, g3, g4, g5, g6, g7⟩ := ai_cls hci
    obtain ⟨w1, w2, w3⟩ := ai_clt_spec hc2.2 CC T N g2
    dsimp only at hs
    cases hq : (ai_nr h.2.1.length L && (ai_nr h.2.1.length st && Nat.blt h.2.1.length 900)) with
    | false => rw [hq] at hs; cases hs
    | true =>
      rw [hq] at hs
      simp only [Bool.and_eq_true] at hq
      obtain ⟨q2, q3, -⟩ := hq
      have hm1 := hm _ _ _ hs
      have hmk1 : h.1.1 + 1 ≤ r.2.1.1 := hm1.1
      have hmk2 : h.1.2 + ai_nf ci ≤ r.2.1.2 := hm1.2
      subst g3
      refine va_new (D := D) (cl := ai_cl) (fs := ai_fs lo (ai_ob ci (ai_nf ci) h) h.2.1.length ci) hx hb hts g4 ty g5 hown (hts _ w1) (hts _ w2) (hts _ w3) hK hP hD hS hA g1 (fun j hj => ?_) (by omega) (by omega) hd (fun q H1 g8 g9 g10 => ?_)
      · have hg := ai_fs_get (lo := lo) (h := ai_ob ci (ai_nf ci) h) (k := h.2.1.length) hj
        have : vp_V (ai_fs lo (ai_ob ci (ai_nf ci) h) h.2.1.length ci) j = ai_fv lo (ai_ob ci (ai_nf ci) h) h.2.1.length ci j := by
          simp [vp_V, hg]
        rw [this]
        have hf := g7 j hj
        cases ht : ai_ft ci j with
        | zero => rw [ai_fv_0 ht]; rw [ht] at hf; cases hty : ty j <;> rw [hty] at hf <;> simp [ai_fkd] at hf; simp [ai_ob, defaultValue]
        | succ t =>
          cases t with
          | zero => rw [ai_fv_1 ht]; rw [ht] at hf; cases hty : ty j <;> rw [hty] at hf <;> simp [ai_fkd] at hf; simp [ai_ob, defaultValue]
          | succ t => rw [ai_fv_2 (by rw [ht]; simp) (by rw [ht]; simp)]; rw [ht] at hf; cases hty : ty j <;> rw [hty] at hf <;> simp [ai_fkd] at hf <;> simp [ai_ob, defaultValue, va_rf]
      · have hkk := hk _ _ _ hs (fun k => if k = h.2.1.length then q else lo k) ls H1 locs (cells + 1) (slots + ai_nf ci) (S.mk (kq := (0, ci)) (h1 := ai_ob ci (ai_nf ci) h) rfl (fun k hk => ⟨by simp [ai_ob, Nat.ne_of_lt hk], by simp [ai_ob, Nat.ne_of_lt hk], by simp [ai_ob, Nat.ne_of_lt hk]⟩) (fun k j v hv => by
            by_cases hkl : k = h.2.1.length
            · simp [ai_ob, hkl] at hv
            · simpa [ai_ob, hkl] using hv) rfl q2 (by
            show Sum.inr (ci, ai_fs _ _ _ _) = Sum.inr (ci, ai_fs _ _ _ _)
            congr 2
            unfold ai_fs
            congr 1
            funext j
            unfold ai_fv
            simp [ai_ob]) g8 g9 g10)
        rw [List.map_cons, ai_map_tv (ai_nr_tv q3)] at hkk
        simp only [ai_tv, if_pos] at hkk
        exact hkk
  · cases hc2
theorem ai_kst_in {w : Cond} (h : (ai_kst.map Prod.fst).contains w = true) : w ∈ ai_tb := by
  obtain ⟨q, hq, rfl⟩ := List.mem_map.mp (List.contains_iff_mem.mp h)
  exact ai_tb_in (ai_wat_in (List.all_eq_true.mp ai_kst_ok q hq))
section ALD
variable {p : Program} {l : Launch} {e : Env} {R : Room} {s : State} {m : MethodId} {args : Array Value} {below : List Frame} {meth : Method} {c : Code} {H : Heap} {locs : List Loc} {cells slots : Nat} {Q : State → Prop}
variable {cc : ByteArray} {pc : Nat} {ls : Array Slot} {rest : List Value}
theorem ai_ldcwS (hexec : p.tables.exec = Jvm.exec) (hb : c.code = cc) {own tx : String} {index q : Nat} (hown : s.vm.findClass own = some m.cls) (hZ : vk_R own index tx q s) (hdg : decode cc pc = .ok (.ldc_w index, 3))
    (k : W p l e R s m args below meth c H locs cells slots Q (F0 m (pc + 3) ls (.ref q :: rest))) : W p l e R s m args below meth c H locs cells slots Q (F0 m pc ls rest) := by
  intro T hT X
  obtain ⟨t, a1, b1⟩ := k T hT X
  refine ⟨t, ?_, b1⟩
  obtain ⟨k, cf, i, a', hk, hcf, hcp, -, hr, hev'⟩ := Cond.stringRef_spec hown hZ.1
  have hev := hZ.2
  cases hev.symm.trans hev'
  obtain ⟨k', hk', he⟩ := X.warmed.alike.2.2 _ _ hk
  have hr' : k'.resolved[index]? = some (some (.string q)) := by
    rcases X.warmed.entry hk hk' index with h | ⟨h, -⟩
    · rw [h]; exact hr
    · rw [hr] at h; cases h
  jvm_step X.here [hexec, hb, hdg, ldc_w.wp_string (e := e) (s := T) (f := F0 m pc ls rest) X.here.top hk' (by rw [he]; exact hcf) hcp hr']
  exact a1
theorem ai_W_post {Q1 : State → Prop} {g : JFrame} (h : ∀ t, Q1 t → Q t) (k : W p l e R s m args below meth c H locs cells slots Q1 g) : W p l e R s m args below meth c H locs cells slots Q g := by
  intro T hT X
  obtain ⟨t, a, b⟩ := k T hT X
  exact ⟨t, a, h t b⟩
end ALD
theorem ai_stk_spec {mi i j : Nat} (h : (match ai_stk[j]? with
    | some r => decide (r.1 = ai_own mi) && Nat.beq r.2.1 i
    | none => false) = true) : ∃ r, ai_stk[j]? = some r ∧ r.1 = ai_own mi ∧ r.2.1 = i := by
  cases hr : ai_stk[j]? with
  | none => rw [hr] at h; cases h
  | some r =>
    rw [hr] at h
    simp only [Bool.and_eq_true, decide_eq_true_eq] at h
    exact ⟨r, rfl, h.1, ai_beq h.2⟩
def ai_ldI1 : Instr → Bool
  | .ldc _ | .ldc_w _ | .ldc2_w _ | .tableswitch .. | .lookupswitch .. => true
  | _ => false
theorem ai_tgs_get {mi pc : Nat} : ∀ (os : List Int) (bs : List Nat), ai_tgs mi pc os bs = true → ∀ (i : Nat) (o : Int), os[i]? = some o → (pc : Int) + o = ((ai_pc mi (bs.getD i 0) : Nat) : Int)
  | [], _, _, i, o, h => by simp at h
  | o' :: os, [], h, _, _, _ => by cases h
  | o' :: os, b :: bs, h, 0, o, ho => by
    simp only [ai_tgs, Bool.and_eq_true, ai_tgt, decide_eq_true_eq] at h
    simp only [List.getElem?_cons_zero, Option.some.injEq] at ho
    subst ho
    simpa using h.1
  | o' :: os, b :: bs, h, i + 1, o, ho => by
    simp only [ai_tgs, Bool.and_eq_true] at h
    simp only [List.getElem?_cons_succ] at ho
    simpa using ai_tgs_get os bs h.2 i o ho
theorem ai_look_spec {mi pc : Nat} {x : Int} {df : Int} {b0 : Nat} (h0 : (pc : Int) + df = ((ai_pc mi b0 : Nat) : Int)) : ∀ (ps : List (Int × Int)) (bs : List Nat), ai_tgs mi pc (ps.map Prod.snd) bs = true → (pc : Int) + Op.lookupswitch.offset ps df x = ((ai_pc mi (ai_look x ps bs b0) : Nat) : Int)
  | [], [], _ => h0
  | [], b :: bs, h => by cases h
  | q :: ps, [], h => by cases h
  | (a, o) :: ps, b :: bs, h => by
    simp only [List.map_cons, ai_tgs, Bool.and_eq_true, ai_tgt, decide_eq_true_eq] at h
    rw [Op.lookupswitch.offset_cons]
    simp only [ai_look]
    by_cases hx : x = a
    · subst hx
      simp only [if_pos]
      exact h.1
    · rw [if_neg hx]
      have := ai_look_spec h0 (x := x) ps bs h.2
      first
        | (rw [if_neg hx]; exact this)
        | (rw [if_neg (fun q => hx q.symm)]; exact this)
set_option maxHeartbeats 4000000 in
theorem ai_snd_ld {X : ai_Pk} {G : ai_Pg} {mi d : Nat} (C : ai_Cx mi d X G) {rc : ai_Rec} {k : ai_K} {op : ai_Op} {pc len : Nat} {L st : List Value} {h : ai_Hp} (hsim : ai_ldI1 op.1 = true) (hd : decode (ai_bts mi) pc = .ok (op.1, len)) (hc : ai_opk mi pc len op = true)
    (hk : ∀ L' st' h', k L' st' h' = some G.2.2.2.2.2.2.2.1 → ai_K1 X G (pc + len) L' st' h') (hrc : ∀ b L' st' h', rc d mi b L' st' h' = some G.2.2.2.2.2.2.2.1 → ai_K1 X G (ai_pc mi b) L' st' h')
    (hs : ai_step rc d mi op L st h k = some G.2.2.2.2.2.2.2.1) : ai_K1 X G pc L st h := by
  obtain ⟨p, l, e, R, s, m, args, below, meth, c⟩ := X
  obtain ⟨D, cs, ad, adV, A, h0, lo0, r, mc, ms, Q⟩ := G
  obtain ⟨⟨hx, hb, -, -, hown, hts⟩, -, ⟨-, -, hSR, -⟩, -⟩ := C
  obtain ⟨ins, aux, cv⟩ := op
  dsimp only at hd hs hk hrc
  intro lo ls H locs cells slots S
  cases ins
  case ldc i =>
    simp only [ai_opk, Bool.and_eq_true] at hc
    obtain rfl := ai_beq hc.1
    have hc2 := hc.2
    dsimp only [ai_step] at hs
    cases aux with
    | nil => exact lv_ldc hx hb hown (hts _ (ai_kst_in hc2)) hd (hk _ _ _ hs lo ls H locs cells slots S)
    | cons j tl =>
      obtain ⟨q, q1, q2, q3⟩ := ai_stk_spec hc2
      have hR := hSR j q q1
      rw [q2, q3] at hR
      exact va_ldcS hx hb hown hR hd (hk _ _ _ hs lo ls H locs cells slots S)
  case ldc_w i =>
    simp only [ai_opk, Bool.and_eq_true] at hc
    obtain rfl := ai_beq hc.1
    have hc2 := hc.2
    dsimp only [ai_step] at hs
    cases aux with
    | nil => exact lv_ldcw hx hb hown (hts _ (ai_kst_in hc2)) hd (hk _ _ _ hs lo ls H locs cells slots S)
    | cons j tl =>
      obtain ⟨q, q1, q2, q3⟩ := ai_stk_spec hc2
      have hR := hSR j q q1
      rw [q2, q3] at hR
      exact ai_ldcwS hx hb hown hR hd (hk _ _ _ hs lo ls H locs cells slots S)
  case ldc2_w i =>
    simp only [ai_opk, Bool.and_eq_true] at hc
    obtain rfl := ai_beq hc.1
    dsimp only [ai_step] at hs
    exact lv_ldc2 hx hb hown (hts _ (ai_kst_in hc.2)) hd (hk _ _ _ hs lo ls H locs cells slots S)
  case tableswitch df lo' hi offs =>
    simp only [ai_opk, Bool.and_eq_true, ai_tgt, decide_eq_true_eq] at hc
    obtain ⟨h1, h2, h3⟩ := hc
    dsimp only [ai_step] at hs
    split at hs
    · rename_i x r'
      split at hs
      · rename_i hq
        exact lv_tableOut hx hb hd hq h1 (hrc _ _ _ _ hs lo ls H locs cells slots S)
      · rename_i hq
        have hq1 : ¬ x.toInt < lo' := fun z => hq (Or.inl z)
        have hq2 : ¬ hi < x.toInt := fun z => hq (Or.inr z)
        have hlt : (x.toInt - lo').toNat < offs.size := by omega
        have ho : offs[(x.toInt - lo').toNat]? = some offs[(x.toInt - lo').toNat] := Array.getElem?_eq_getElem hlt
        exact lv_tableIn hx hb hd hq1 hq2 ho (ai_tgs_get _ _ h2 _ _ (by rw [Array.getElem?_toList]; exact ho)) (hrc _ _ _ _ hs lo ls H locs cells slots S)
    · cases hs
  case lookupswitch df ps =>
    simp only [ai_opk, Bool.and_eq_true, ai_tgt, decide_eq_true_eq] at hc
    obtain ⟨h1, h2, h3⟩ := hc
    dsimp only [ai_step] at hs
    split at hs
    · rename_i x r'
      exact lv_lookup hx hb hd h1 rfl (ai_look_spec h2 _ _ h3) (hrc _ _ _ _ hs lo ls H locs cells slots S)
    · cases hs
  all_goals cases hsim
/-! the ends -/
def ai_oc (lo sk : Nat → Nat) : (Option Value ⊕ Nat) → Outcome
  | .inl v => .returned (v.map (ai_tv lo sk))
  | .inr a => .threw (lo a)
def ai_Fin : ai_Pk → ai_Pg → Prop
  | (_, _, _, _, s, _, _, below, _, _), (D, cs, ad, _, A, h0, lo0, r, mc, ms, Q) => ∀ (t : State) (o : Outcome) (lo : Nat → Nat) (Ls : List Loc), t.status = .running → Ended t below o → o = ai_oc lo (ai_skk ad) r.1 → va_P D ai_cl (ai_w cs lo r.2) t.heap → va_D A (ai_w cs lo r.2) → ai_ok r.2 → ai_sm h0 lo0 r.2 lo → va_F A s t → s.WarmedH t.vm → s.sameButNew ({ t with vm := s.vm } : State) Ls mc ms → (∀ q ∈ Ls, A q.base) → Q t
def ai_endI : Instr → Bool
  | .ireturn | .lreturn | .areturn | .return_ | .athrow => true
  | _ => false
theorem ai_fin1 {X : ai_Pk} {G : ai_Pg} (F : ai_Fin X G) {lo : Nat → Nat} {L : List Value} {h : ai_Hp} {ls : Array Slot} {H : Heap} {locs : List Loc} {cells slots : Nat} (S : ai_St X G lo L h ls H locs cells slots) {o1 : Option Value ⊕ Nat} (hr : some (o1, h) = some G.2.2.2.2.2.2.2.1) {t : State} {o : Outcome} {Ls : List Loc} (h1 : t.status = .running) (h2 : Ended t X.2.2.2.2.2.2.2.1 o) (h3 : o = ai_oc lo (ai_skk G.2.2.1) o1) (h4 : t.heap = H) (h5 : X.2.2.2.2.1.WarmedH t.vm) (h6 : X.2.2.2.2.1.sameButNew ({ t with vm := X.2.2.2.2.1.vm } : State) Ls cells slots) (h7 : ∀ q ∈ Ls, G.2.2.2.2.1 q.base) : G.2.2.2.2.2.2.2.2.2.2 t := by
  obtain ⟨p, l, e, R, s, m, args, below, meth, c⟩ := X
  obtain ⟨D, cs, ad, adV, A, h0, lo0, r, mc, ms, Q⟩ := G
  cases hr
  obtain ⟨hl, ⟨hP, hD, hS⟩, ⟨hok, hsm⟩, hc1, hc2⟩ := S
  dsimp only at hc1 hc2 h1 h2 h3 h4 h5 h6 h7 ⊢
  have e1 : cells = mc := by omega
  have e2 : slots = ms := by omega
  subst e1; subst e2
  exact F t o lo Ls h1 h2 h3 (by rw [h4]; exact hP) hD hok hsm (hS.F h4) h5 h6 h7
set_option maxHeartbeats 4000000 in
theorem ai_snd_end {X : ai_Pk} {G : ai_Pg} {mi d : Nat} (C : ai_Cx mi d X G) (F : ai_Fin X G) {rc : ai_Rec} {k : ai_K} {op : ai_Op} {pc len : Nat} {L st : List Value} {h : ai_Hp} (hsim : ai_endI op.1 = true) (hd : decode (ai_bts mi) pc = .ok (op.1, len)) (hc : ai_opk mi pc len op = true)
    (hs : ai_step rc d mi op L st h k = some G.2.2.2.2.2.2.2.1) : ai_K1 X G pc L st h := by
  obtain ⟨p, l, e, R, s, m, args, below, meth, c⟩ := X
  obtain ⟨D, cs, ad, adV, A, h0, lo0, r, mc, ms, Q⟩ := G
  obtain ⟨⟨hx, hb, hret, -, -, -⟩, ⟨hlk, -, hex, -⟩, -⟩ := C
  obtain ⟨ins, aux, cv⟩ := op
  dsimp only at hd hs
  intro lo ls H locs cells slots S
  have hSl : ∀ q ∈ locs, A q.base := S.2.1.2.2.2.2
  cases ins
  case ireturn =>
    simp only [ai_opk, Bool.and_eq_true, decide_eq_true_eq] at hc
    obtain rfl := ai_beq hc.1
    have hc2 := hc.2
    dsimp only [ai_step] at hs
    split at hs
    · rename_i v
      cases hz : Nat.beq (aux.headD 0) 1 with
      | false =>
        rw [hz] at hs hc2
        refine ai_W_post (fun t ht => ?_) (W.iret (Qc := fun _ _ o t => o = .returned (some (.int v)) ∧ t.heap = H) (free := A) hx hb (hret.trans hc2) (fun t ht _ => ⟨rfl, ht⟩) hSl hd hlk)
        obtain ⟨o, g1, g2, ⟨g3, g4⟩, Ls, ⟨-, g5, g6⟩, g7⟩ := ht
        exact ai_fin1 F S hs g1 g2 g3 g4 g5 g6 g7
      | true =>
        rw [hz] at hs hc2
        dsimp only [cond_true] at hs
        split at hs
        · rename_i hv
          refine ai_W_post (fun t ht => ?_) (W.zret (Qc := fun _ _ o t => o = .returned (some (.int v)) ∧ t.heap = H) (free := A) (ty := .boolean) hx hb (hret.trans hc2) (by rcases hv with rfl | rfl <;> decide) (fun t ht _ => ⟨rfl, ht⟩) hSl hd hlk)
          obtain ⟨o, g1, g2, ⟨g3, g4⟩, Ls, ⟨-, g5, g6⟩, g7⟩ := ht
          exact ai_fin1 F S hs g1 g2 g3 g4 g5 g6 g7
        · cases hs
    · cases hs
  case lreturn =>
    simp only [ai_opk, Bool.and_eq_true, decide_eq_true_eq] at hc
    obtain rfl := ai_beq hc.1
    dsimp only [ai_step] at hs
    split at hs
    · rename_i v
      refine ai_W_post (fun t ht => ?_) (W.lret (Qc := fun _ _ o t => o = .returned (some (.long v)) ∧ t.heap = H) (free := A) hx hb (hret.trans hc.2) (fun t ht _ => ⟨rfl, ht⟩) hSl hd hlk)
      obtain ⟨o, g1, g2, ⟨g3, g4⟩, Ls, ⟨-, g5, g6⟩, g7⟩ := ht
      exact ai_fin1 F S hs g1 g2 g3 g4 g5 g6 g7
    · cases hs
  case areturn =>
    simp only [ai_opk, Bool.and_eq_true] at hc
    obtain rfl := ai_beq hc.1
    have hc2 := hc.2
    split at hc2
    · rename_i C1 hC1
      dsimp only [ai_step] at hs
      split at hs
      · rename_i v
        refine ai_W_post (fun t ht => ?_) (W.aret (Qc := fun _ _ o t => o = .returned (some (.ref (lo v))) ∧ t.heap = H) (free := A) (v := .ref (lo v)) hx hb (hret.trans hC1) (Or.inl ⟨_, rfl⟩) (Or.inr ⟨_, rfl⟩) (fun t ht _ => ⟨rfl, ht⟩) hSl hd hlk)
        obtain ⟨o, g1, g2, ⟨g3, g4⟩, Ls, ⟨-, g5, g6⟩, g7⟩ := ht
        exact ai_fin1 F S hs g1 g2 g3 g4 g5 g6 g7
      · cases hs
    · cases hc2
  case return_ =>
    simp only [ai_opk, Bool.and_eq_true, decide_eq_true_eq] at hc
    obtain rfl := ai_beq hc.1
    dsimp only [ai_step] at hs
    split at hs
    · refine ai_W_post (fun t ht => ?_) (W.vret (Qc := fun _ _ o t => o = .returned none ∧ t.heap = H) (free := A) hx hb (hret.trans hc.2) (fun t ht _ => ⟨rfl, ht⟩) hSl hd hlk)
      obtain ⟨o, g1, g2, ⟨g3, g4⟩, Ls, ⟨-, g5, g6⟩, g7⟩ := ht
      exact ai_fin1 F S hs g1 g2 g3 g4 g5 g6 g7
    · cases hs
  case athrow =>
    simp only [ai_opk, Bool.and_eq_true, Bool.not_eq_true'] at hc
    obtain rfl := ai_beq hc.1
    have hmi : mi ≠ 174 := fun q => by have := hc.2; rw [q] at this; cases this
    dsimp only [ai_step] at hs
    split at hs
    · rename_i a
      cases ho : ai_obj h a 10 with
      | false => rw [ho] at hs; cases hs
      | true =>
        rw [ho] at hs
        intro T hT Y
        obtain ⟨g0, g1, g2, g5, g6⟩ := Y.athrowLeaves hx (g := F0 m pc ls [.ref (lo a)]) rfl rfl rfl (by rw [hex hmi]; intro x hx; cases hx) rfl (by rw [hb]; exact hd) hlk
        exact ⟨_, g0, ai_fin1 F S hs g1 g2 rfl hT g5 g6 hSl⟩
    · cases hs
  all_goals cases hsim
