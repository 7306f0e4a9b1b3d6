/-! every run of the abstract machine is one of the real machine -/
theorem ai_objc : Cond.code Lib.objectInit ⟨#[0xb1]⟩ 1 none ∈ ai_tb := ai_tb_in ⟨ai_t1_in (List.mem_of_getElem? (i := 29) rfl), rfl⟩
theorem ai_mlt_c : (ai_mlt.all fun r => (Nat.blt r.2.2.1 216 && !(Nat.beq r.2.2.1 174)) || (Nat.ble 300 r.2.2.1 && Nat.blt r.2.2.1 304)) = true := by decide +kernel
theorem ai_iok_cal {mi pc i kd cal n ci hd k : Nat} (h : ai_iok mi pc i kd [cal, n, ci, hd, k] = true) : (cal < 216 ∧ cal ≠ 174) ∨ (300 ≤ cal ∧ cal < 304) := by
  unfold ai_iok at h
  dsimp only at h
  split at h
  · rename_i r hr
    simp only [Bool.and_eq_true, decide_eq_true_eq] at h
    obtain ⟨⟨-, -, h3, -⟩, -⟩ := h
    have hc := List.all_eq_true.mp ai_mlt_c r (List.mem_of_getElem? hr)
    rw [ai_beq h3] at hc
    simp only [Bool.or_eq_true, Bool.and_eq_true, Bool.not_eq_true'] at hc
    rcases hc with ⟨a, b⟩ | ⟨a, b⟩
    · exact Or.inl ⟨Nat.blt_eq.mp a, fun q => by rw [q] at b; cases b⟩
    · exact Or.inr ⟨Nat.le_of_ble_eq_true a, Nat.blt_eq.mp b⟩
  · cases h
/-- what is known of the shorter runs -/
def ai_Hyp (l : Launch) (rc : ai_Rec) : Prop := (∀ d mi b L st h r, rc d mi b L st h = some r → ai_Po mi h r) ∧ (∀ (e1 cal : Nat) (vs : List Value) (h : ai_Hp) (r1 : (Option Value ⊕ Nat) × ai_Hp), ((cal < 216 ∧ cal ≠ 174) ∨ (300 ≤ cal ∧ cal < 304)) → cond (Nat.ble 300 cal) (ai_prim cal vs h) (rc e1 cal 0 (ai_ent (ai_mx cal) vs) [] h) = some r1 → ai_Con l e1 cal vs h r1)
set_option maxHeartbeats 4000000 in
theorem ai_snd_spec {X : ai_Pk} {G : ai_Pg} {mi d : Nat} (C : ai_Cx mi d X G) (F : ai_Fin X G) {rc : ai_Rec} (Hy : ai_Hyp X.2.1 rc) {k : ai_K} {op : ai_Op} {pc len : Nat} {L st : List Value} {h : ai_Hp} (hd : decode (ai_bts mi) pc = .ok (op.1, len)) (hc : ai_opk mi pc len op = true) (hnt : ai_nt mi op = true)
    (hk : ∀ L' st' h', k L' st' h' = some G.2.2.2.2.2.2.2.1 → ai_K1 X G (pc + len) L' st' h') (hkm : ∀ L' st' h', k L' st' h' = some G.2.2.2.2.2.2.2.1 → ai_Po mi h' G.2.2.2.2.2.2.2.1) (hrc : ∀ b L' st' h', rc d mi b L' st' h' = some G.2.2.2.2.2.2.2.1 → ai_K1 X G (ai_pc mi b) L' st' h')
    (hs : ai_step rc d mi op L st h k = some G.2.2.2.2.2.2.2.1) : ai_K1 X G pc L st h := by
  by_cases h1 : ai_simple op.1 = true
  · exact ai_snd1 C h1 hd hc hk hrc hs
  by_cases h2 : ai_arrI op.1 = true
  · exact ai_snd_arr C h2 hd hc hk hs
  by_cases h3 : ai_ldI1 op.1 = true
  · exact ai_snd_ld C h3 hd hc hk hrc hs
  by_cases h4 : ai_endI op.1 = true
  · exact ai_snd_end C F h4 hd hc hs
  obtain ⟨ins, aux, cv⟩ := op
  dsimp only at h1 h2 h3 h4
  cases ins
  case getfield i => exact ai_snd_get C hd hc hk hs
  case putfield i => exact ai_snd_put C hd hc hk hs
  case newarray ty => exact ai_snd_newa C hd hc hk (fun L' st' h' H => (hkm L' st' h' H).1) hs
  case new i => exact ai_snd_new C hd hc hk (fun L' st' h' H => (hkm L' st' h' H).1) hs
  case invokevirtual i =>
    simp only [ai_opk, Bool.and_eq_true] at hc
    obtain rfl := ai_beq hc.1
    obtain ⟨cal, n, ci, hd0, k0, nst, rfl, hrow⟩ := ai_iok_spec (by decide) hc.2
    exact ai_snd_inv C F hrow hd (ai_nt_x hnt) hk hkm hrc Hy.1 (fun e1 vs r1 _ H => Hy.2 e1 cal vs h r1 (ai_iok_cal hc.2) H) hs
  case invokestatic i =>
    simp only [ai_opk, Bool.and_eq_true] at hc
    obtain rfl := ai_beq hc.1
    obtain ⟨cal, n, ci, hd0, k0, nst, rfl, hrow⟩ := ai_iok_spec (by decide) hc.2
    exact ai_snd_inv C F hrow hd (ai_nt_x hnt) hk hkm hrc Hy.1 (fun e1 vs r1 _ H => Hy.2 e1 cal vs h r1 (ai_iok_cal hc.2) H) hs
  case invokespecial i =>
    simp only [ai_opk, Bool.and_eq_true] at hc
    obtain rfl := ai_beq hc.1
    have hc2 := hc.2
    cases aux with
    | nil => cases hc2
    | cons cal tl =>
      dsimp only at hc2
      cases h998 : Nat.beq cal 998 with
      | false =>
        rw [h998] at hc2
        obtain ⟨cal, n, ci, hd0, k0, nst, hau, hrow⟩ := ai_iok_spec (by decide) hc2
        rw [hau] at hs hnt hc2
        injection hau with hau1 hau2
        rw [hau1] at h998
        dsimp only [ai_step, ai_spec] at hs
        rw [h998] at hs
        exact ai_snd_inv C F hrow hd (ai_nt_x hnt) hk hkm hrc Hy.1 (fun e1 vs r1 _ H => Hy.2 e1 cal vs h r1 (ai_iok_cal hc2) H) hs
      | true =>
        rw [h998] at hc2
        obtain ⟨q, hq, he⟩ := List.mem_map.mp (List.contains_iff_mem.mp hc2)
        simp only [Prod.mk.injEq] at he
        have hw := ai_tb_in (ai_wat_in (List.all_eq_true.mp ai_oit_ok q hq))
        rw [he.1, he.2] at hw
        obtain ⟨p, l, e, R, s, m, args, below, meth, c⟩ := X
        obtain ⟨D, cs, ad, adV, A, h0, lo0, r, mc, ms, Q⟩ := G
        obtain ⟨⟨hx, hb, -, hml, hown, hts⟩, -, -, ⟨hfr, hlo, -⟩, -⟩ := C
        dsimp only [ai_step, ai_spec] at hs
        dsimp only at hk hd
        intro lo ls H locs cells slots S
        split at hs
        · rename_i heq
          injection heq with heq1 heq2
          rw [← heq1, h998] at hs
          dsimp only [cond_true] at hs
          split at hs
          · rename_i d1 a r'
            obtain ⟨g1, hs⟩ := ai_cnd hs
            simp only [Bool.and_eq_true] at g1
            have hwt := Nat.le_of_ble_eq_true g1.1
            have hsz : ls.size = ai_mx mi := S.1.1.trans (ai_beq g1.2)
            refine W.objInit (g := F0 m pc ls ((Value.ref a :: r').map (ai_tv lo (ai_skk ad)))) hx hb hown (hts _ hw) (hts _ (ai_tb_in (ai_was_in ai_oiw _ (by simp)))) (hts _ ai_objc) rfl (hsz.trans hml.symm) rfl hd (by omega) ?_ (hk _ _ _ hs lo ls H locs cells slots S)
            have := Nat.le_trans (ai_wt_tv (lo := lo) (sk := ai_skk ad) r') hwt
            show 2 * 0 + _ + 12 ≤ _
            omega
          · cases hs
        · cases hs
  all_goals first
    | (exact absurd rfl h1; done)
    | (exact absurd rfl h2; done)
    | (exact absurd rfl h3; done)
    | (exact absurd rfl h4; done)
theorem ai_trm_k {rc : ai_Rec} {d mi : Nat} {op : ai_Op} {L st : List Value} {h : ai_Hp} {k : ai_K} (ht : ai_trm op.1 = true) : ai_step rc d mi op L st h k = ai_step rc d mi op L st h (fun _ _ _ => none) := by
  obtain ⟨ins, aux, cv⟩ := op
  cases ins <;> first | rfl | (cases ht; done)
theorem ai_ops_snd {X : ai_Pk} {G : ai_Pg} {mi d : Nat} (C : ai_Cx mi d X G) (F : ai_Fin X G) {rc : ai_Rec} (Hy : ai_Hyp X.2.1 rc) {nx : Nat} (hrc : ∀ b L' st' h', rc d mi b L' st' h' = some G.2.2.2.2.2.2.2.1 → ai_K1 X G (ai_pc mi b) L' st' h') : ∀ (ops : List ai_Op) (pc : Nat) (L st : List Value) (h : ai_Hp), ai_ck mi nx ops pc = true → ops.all (ai_nt mi) = true → ai_ops rc d mi nx ops L st h = some G.2.2.2.2.2.2.2.1 → ai_K1 X G pc L st h
  | [], pc, L, st, h, hck, _, hs => by
    have := ai_beq (show Nat.beq (ai_pc mi nx) pc = true from hck)
    rw [← this]
    exact hrc _ _ _ _ hs
  | op :: ops, pc, L, st, h, hck, hnt, hs => by
    simp only [List.all_cons, Bool.and_eq_true] at hnt
    unfold ai_ck at hck
    split at hck
    · rename_i q hq
      simp only [Bool.and_eq_true, decide_eq_true_eq] at hck
      obtain ⟨k1, k2, k3⟩ := hck
      have hd : decode (ai_bts mi) pc = .ok (op.1, q.2) := by rw [hq, ← k1]
      have hs1 : ai_step rc d mi op L st h (fun L st h => ai_ops rc d mi nx ops L st h) = some G.2.2.2.2.2.2.2.1 := hs
      cases ht : ai_trm op.1 with
      | true =>
        rw [ai_trm_k ht] at hs1
        exact ai_snd_spec C F Hy hd k2 hnt.1 (fun _ _ _ H => by cases H) (fun _ _ _ H => by cases H) hrc hs1
      | false =>
        rw [ht] at k3
        exact ai_snd_spec C F Hy hd k2 hnt.1 (fun L' st' h' H => ai_ops_snd C F Hy hrc ops _ L' st' h' k3 hnt.2 H) (fun L' st' h' H => ai_ops_po Hy.1 ops L' st' h' hnt.2 H) hrc hs1
    · cases hck
theorem ai_pcs_ok : ((List.range 216).all fun mi => Nat.beq (ai_pc mi 0) 0 && Nat.beq (ai_rw mi).2.2.2.length ((ai_prog[mi]?).getD []).length) = true := by decide +kernel
theorem ai_ckB_get {mi : Nat} : ∀ (bs : List ai_Bk) (b0 : Nat), ai_ckB mi bs b0 = true → ∀ (j : Nat) (bk : ai_Bk), bs[j]? = some bk → ai_ck mi bk.2.1 bk.1 (ai_pc mi (b0 + j)) = true
  | [], b0, _, j, bk, h => by simp at h
  | b :: bs, b0, hc, 0, bk, h => by
    simp only [ai_ckB, Bool.and_eq_true] at hc
    simp only [List.getElem?_cons_zero, Option.some.injEq] at h
    subst h
    exact hc.2.1
  | b :: bs, b0, hc, j + 1, bk, h => by
    simp only [ai_ckB, Bool.and_eq_true] at hc
    simp only [List.getElem?_cons_succ] at h
    have := ai_ckB_get bs (b0 + 1) hc.2.2.2 j bk h
    rw [show b0 + (j + 1) = b0 + 1 + j by omega]
    exact this
theorem ai_code_ck {mi : Nat} (hmi : mi < 216) (b : Nat) : ai_ck mi (ai_code mi b).2.1 (ai_code mi b).1 (ai_pc mi b) = true := by
  have hp := List.all_eq_true.mp ai_pcs_ok mi (List.mem_range.mpr hmi)
  simp only [Bool.and_eq_true] at hp
  have hM := ai_ck_all mi hmi
  unfold ai_ckM at hM
  simp only [Bool.and_eq_true] at hM
  unfold ai_code
  cases hb : ((ai_prog[mi]?).getD [])[b]? with
  | some bk =>
    have := ai_ckB_get _ 0 hM.1 b bk hb
    rw [Nat.zero_add] at this
    exact this
  | none =>
    have hlen : ((ai_prog[mi]?).getD []).length ≤ b := List.getElem?_eq_none_iff.mp hb
    have hz : ai_pc mi b = 0 := by
      unfold ai_pc
      rw [List.getElem?_eq_none_iff.mpr (by rw [ai_beq hp.2]; exact hlen)]
      rfl
    show Nat.beq (ai_pc mi 0) (ai_pc mi b) = true
    rw [hz]
    exact hp.1
/-- a run, in the words of the real machine -/
theorem ai_blk_snd {X : ai_Pk} {G : ai_Pg} {mi d : Nat} (C : ai_Cx mi d X G) (F : ai_Fin X G) {rc : ai_Rec} (Hy : ai_Hyp X.2.1 rc) (hrc : ∀ b L' st' h', rc d mi b L' st' h' = some G.2.2.2.2.2.2.2.1 → ai_K1 X G (ai_pc mi b) L' st' h') {b : Nat} {L st : List Value} {h : ai_Hp} (hs : ai_blk rc d mi b L st h = some G.2.2.2.2.2.2.2.1) : ai_K1 X G (ai_pc mi b) L st h := by
  have hmi : mi < 216 := by
    obtain ⟨p, l, e, R, s, m, args, below, meth, c⟩ := X
    obtain ⟨D, cs, ad, adV, A, h0, lo0, r, mc, ms, Q⟩ := G
    exact C.2.2.2.2.2
  have hK := ai_ops_snd C F Hy hrc (ai_code mi b).1 (ai_pc mi b) _ st h (ai_code_ck hmi b) (ai_code_nt mi b) hs
  obtain ⟨p, l, e, R, s, m, args, below, meth, c⟩ := X
  obtain ⟨D, cs, ad, adV, A, h0, lo0, r, mc, ms, Q⟩ := G
  intro lo ls H locs cells slots S
  exact hK lo ls H locs cells slots ⟨S.1.msk _, S.2⟩
/-! the entry of a method -/
theorem ai_lay_long (x : Int64) (vs : List Value) : ai_lay (.long x :: vs) = [Value.long x, ai_un] ++ ai_lay vs := rfl
theorem ai_lay_one {v : Value} (vs : List Value) (hv : ∀ x, v ≠ .long x) : ai_lay (v :: vs) = [v] ++ ai_lay vs := by
  cases v with
  | long x => exact absurd rfl (hv x)
  | _ => rfl
theorem ai_sl_cons (v : Value) (vs : List Value) : lg_sl (v :: vs) = (if v.category = 2 then [Slot.val v, .second] else [.val v]) ++ lg_sl vs := by
  simp only [lg_sl, List.flatMap_cons]
theorem ai_lay_sl {lo sk : Nat → Nat} : ∀ vs : List Value, (lg_sl (vs.map (ai_tv lo sk))).length = (ai_lay vs).length ∧ ∀ (i : Nat) (v : Value), (ai_lay vs)[i]? = some v → v ≠ .retAddr 0 → (lg_sl (vs.map (ai_tv lo sk)))[i]? = some (.val (ai_tv lo sk v))
  | [] => ⟨rfl, fun i v h => by simp [ai_lay] at h⟩
  | w :: vs => by
    obtain ⟨ih1, ih2⟩ := ai_lay_sl (lo := lo) (sk := sk) vs
    rw [List.map_cons, ai_sl_cons]
    by_cases hw : ∃ x, w = .long x
    · obtain ⟨x, rfl⟩ := hw
      have e : (if (ai_tv lo sk (.long x)).category = 2 then [Slot.val (ai_tv lo sk (.long x)), .second] else [.val (ai_tv lo sk (.long x))]) = [Slot.val (.long x), .second] := by simp [ai_tv, Value.category]
      rw [e, ai_lay_long]
      refine ⟨by simp [ih1], fun i v h hv => ?_⟩
      match i, h with
      | 0, h => simp at h; subst h; simp [ai_tv]
      | 1, h => simp at h; exact absurd h.symm hv
      | i + 2, h =>
        simp only [List.cons_append, List.nil_append, List.getElem?_cons_succ] at h ⊢
        exact ih2 i v h hv
    · have e : (if (ai_tv lo sk w).category = 2 then [Slot.val (ai_tv lo sk w), .second] else [.val (ai_tv lo sk w)]) = [Slot.val (ai_tv lo sk w)] := by
        rw [if_neg]
        intro hc
        exact hw (ai_tv_cat hc)
      rw [e, ai_lay_one vs (fun x hx => hw ⟨x, hx⟩)]
      refine ⟨by simp [ih1], fun i v h hv => ?_⟩
      match i, h with
      | 0, h => simp at h; subst h; simp
      | i + 1, h =>
        simp only [List.cons_append, List.nil_append, List.getElem?_cons_succ] at h ⊢
        exact ih2 i v h hv
theorem ai_entry {lo sk : Nat → Nat} (vs : List Value) (n : Nat) : ai_lr lo sk ((lg_sl (vs.map (ai_tv lo sk)) ++ List.replicate (n - (lg_sl (vs.map (ai_tv lo sk))).length) Slot.unset).toArray) (ai_ent n vs) := by
  obtain ⟨h1, h2⟩ := ai_lay_sl (lo := lo) (sk := sk) vs
  obtain ⟨g1, -⟩ := lv_entry_list (vs.map (ai_tv lo sk)) (n - (lg_sl (vs.map (ai_tv lo sk))).length) [] ⟨fun i v h => by simp at h, fun i h => by simp at h⟩ (fun v h => by simp at h)
  refine ⟨by simp [ai_ent, h1], by simpa using g1, fun q hq => ?_⟩
  obtain ⟨v, q1, q2, q3⟩ := ai_ll_of hq
  rw [q3]
  unfold ai_ent at q1
  by_cases hl : q.1 < (ai_lay vs).length
  · rw [List.getElem?_append_left hl] at q1
    have := h2 _ _ q1 q2
    simp only [List.getElem?_toArray]
    rw [List.getElem?_append_left (by rw [h1]; exact hl)]
    exact this
  · rw [List.getElem?_append_right (by omega)] at q1
    have := List.mem_replicate.mp (List.mem_of_getElem? q1)
    exact absurd this.2 q2
theorem ai_cdw_in {mi : Nat} (h : mi < 216) : ai_cdw mi (ai_rw mi) ∈ lw_tbl := by
  have key : ∀ (mi : Nat) (r : MethodName × ByteArray × Option FieldType × List Nat), ai_rows[mi]? = some r → ai_cdw mi r ∈ lw_tbl := by
    intro mi r hr
    unfold ai_rows at hr
    have st : ∀ (l1 l2 : List (MethodName × ByteArray × Option FieldType × List Nat)) (k : Nat), l1.length = 20 → (l1 ++ l2)[k]? = some r → (l1[k]? = some r ∧ k < 20) ∨ (20 ≤ k ∧ l2[k - 20]? = some r) := by
      intro l1 l2 k hl hk
      by_cases hlt : k < 20
      · rw [List.getElem?_append_left (by omega)] at hk; exact Or.inl ⟨hk, hlt⟩
      · rw [List.getElem?_append_right (by omega), hl] at hk; exact Or.inr ⟨by omega, hk⟩
    rcases st _ _ _ rfl hr with ⟨g, -⟩ | ⟨g0, hr⟩
    · exact ai_cds_0 mi r g
    rcases st _ _ _ rfl hr with ⟨g, -⟩ | ⟨g1, hr⟩
    · have := ai_cds_1 _ r g; rwa [show mi - 20 + 20 = mi by omega] at this
    rcases st _ _ _ rfl hr with ⟨g, -⟩ | ⟨g2, hr⟩
    · have := ai_cds_2 _ r g; rwa [show mi - 20 - 20 + 40 = mi by omega] at this
    rcases st _ _ _ rfl hr with ⟨g, -⟩ | ⟨g3, hr⟩
    · have := ai_cds_3 _ r g; rwa [show mi - 20 - 20 - 20 + 60 = mi by omega] at this
    rcases st _ _ _ rfl hr with ⟨g, -⟩ | ⟨g4, hr⟩
    · have := ai_cds_4 _ r g; rwa [show mi - 20 - 20 - 20 - 20 + 80 = mi by omega] at this
    rcases st _ _ _ rfl hr with ⟨g, -⟩ | ⟨g5, hr⟩
    · have := ai_cds_5 _ r g; rwa [show mi - 20 - 20 - 20 - 20 - 20 + 100 = mi by omega] at this
    rcases st _ _ _ rfl hr with ⟨g, -⟩ | ⟨g6, hr⟩
    · have := ai_cds_6 _ r g; rwa [show mi - 20 - 20 - 20 - 20 - 20 - 20 + 120 = mi by omega] at this
    rcases st _ _ _ rfl hr with ⟨g, -⟩ | ⟨g7, hr⟩
    · have := ai_cds_7 _ r g; rwa [show mi - 20 - 20 - 20 - 20 - 20 - 20 - 20 + 140 = mi by omega] at this
    rcases st _ _ _ rfl hr with ⟨g, -⟩ | ⟨g8, hr⟩
    · have := ai_cds_8 _ r g; rwa [show mi - 20 - 20 - 20 - 20 - 20 - 20 - 20 - 20 + 160 = mi by omega] at this
    rcases st _ _ _ rfl hr with ⟨g, -⟩ | ⟨g9, hr⟩
    · have := ai_cds_9 _ r g; rwa [show mi - 20 - 20 - 20 - 20 - 20 - 20 - 20 - 20 - 20 + 180 = mi by omega] at this
    · have := ai_cds_10 _ r hr; rwa [show mi - 20 - 20 - 20 - 20 - 20 - 20 - 20 - 20 - 20 - 20 + 200 = mi by omega] at this
  have hl : mi < ai_rows.length := by
    have : ai_rows.length = 216 := by decide +kernel
    omega
  have hq : ai_rows[mi]? = some ai_rows[mi] := List.getElem?_eq_getElem hl
  have := key mi _ hq
  unfold ai_rw
  rw [hq]
  exact this
theorem ai_names_ok : ((List.range 216).all fun mi => plainFor (ai_rw mi).1 && (Nat.ble (ai_mx mi) 16 && decide ((ai_rw mi).1.name = "<init>" → ai_ret mi = none))) = true := by decide +kernel
set_option maxHeartbeats 4000000 in
/-- a method's contract out of its runs -/
theorem ai_con_of {l : Launch} {e1 cal : Nat} {vs : List Value} {h : ai_Hp} {r : (Option Value ⊕ Nat) × ai_Hp} (hcal : cal < 216) (h174 : cal ≠ 174) (hm : h.1.1 ≤ r.2.1.1 ∧ h.1.2 ≤ r.2.1.2) (hK : ∀ (X : ai_Pk) (G : ai_Pg), X.2.1 = l → G.2.2.2.2.2.2.2.1 = r → ai_Cx cal e1 X G → ai_Fin X G → ai_K1 X G (ai_pc cal 0) (ai_ent (ai_mx cal) vs) [] h) : ai_Con l e1 cal vs h r := by
  have hnm := List.all_eq_true.mp ai_names_ok cal (List.mem_range.mpr hcal)
  simp only [Bool.and_eq_true, decide_eq_true_eq] at hnm
  have hp0 := List.all_eq_true.mp ai_pcs_ok cal (List.mem_range.mpr hcal)
  simp only [Bool.and_eq_true] at hp0
  have hy : ai_y cal = (ai_rw cal).1 := by unfold ai_y; rw [if_pos (by omega)]
  have hcw : Cond.code (ai_rw cal).1 (ai_bts cal) (ai_mx cal) (ai_ret cal) ∈ ai_tb := by
    have := ai_cdw_in hcal
    unfold ai_cdw at this
    rw [if_neg h174] at this
    exact ai_tb_in ⟨this, rfl⟩
  refine ⟨ai_bts cal, ai_mx cal, ai_ret cal, by rw [hy]; exact hcw, Nat.le_of_ble_eq_true hnm.2.1, by rw [hy]; exact hnm.2.2, fun D cs ad adV lo sz => ?_⟩
  refine MetFree.of_bodySF (code := ai_bts cal) (maxLocals := ai_mx cal) (ret := ai_ret cal) (by rw [hy]; exact hnm.1) ?_ ?_
  · intro args s m h hn
    obtain ⟨meth, c, h1, h2, h3, h4, h5, h6, -, -⟩ := Cond.code_spec hn (atoms_spec h _ List.mem_cons_self)
    exact ⟨meth, c, h1, h2, h3, h4, h5, h6⟩
  · intro p e s m args below meth c s₁ B hml hP _
    obtain ⟨rfl, hsz, hPw, hDw, hok, hSta⟩ := hP
    subst hsz
    have hts := atoms_spec B.pre
    have hh0 : s₁.heap = s.heap := by rw [B.state]; rfl
    have hempty := B.noHandlers (hts _ List.mem_cons_self)
    have hF : ai_Fin (p, l, e, ai_rm e1 h r, s, m, (vs.map (ai_tv lo (ai_skk ad))).toArray, below, meth, c) (D, cs, ad, adV, va_A (ai_w cs lo h) s.heap.size, h, lo, r, r.2.1.1 - h.1.1, r.2.1.2 - h.1.2, fun t => ∃ o, t.status = .running ∧ Ended t below o ∧ ai_Qc D cs ad lo h r (va_A (ai_w cs lo h) s.heap.size) (vs.map (ai_tv lo (ai_skk ad))).toArray s o t ∧ ai_Qf s t (r.2.1.1 - h.1.1) (r.2.1.2 - h.1.2) (va_A (ai_w cs lo h) s.heap.size)) :=
      fun t o lo1 Ls k1 k2 k3 k4 k5 k6 k7 k8 k9 k10 k11 => ⟨o, k1, k2, ⟨⟨lo1, k3, k4, k5, k6, k7⟩, k8⟩, Ls, k9, k10, k11⟩
    have hCx : ai_Cx cal e1 (p, l, e, ai_rm e1 h r, s, m, (vs.map (ai_tv lo (ai_skk ad))).toArray, below, meth, c) (D, cs, ad, adV, va_A (ai_w cs lo h) s.heap.size, h, lo, r, r.2.1.1 - h.1.1, r.2.1.2 - h.1.2, fun t => ∃ o, t.status = .running ∧ Ended t below o ∧ ai_Qc D cs ad lo h r (va_A (ai_w cs lo h) s.heap.size) (vs.map (ai_tv lo (ai_skk ad))).toArray s o t ∧ ai_Qf s t (r.2.1.1 - h.1.1) (r.2.1.2 - h.1.2) (va_A (ai_w cs lo h) s.heap.size)) := by
      refine ⟨⟨B.exec, B.bytes, B.returns, hml, ?_, fun w hw => hts w (List.mem_cons_of_mem _ hw)⟩, ⟨B.notSynchronized, ?_, fun _ => ?_, fun q => absurd q h174⟩, hSta, ⟨Nat.le_refl _, Nat.le_refl _, Nat.le_refl _, Nat.le_refl _⟩, fun q hq => Or.inr hq, hcal⟩
      · have := findClass_of_methodNamed B.named
        rw [hy] at this
        exact this
      · have := (name_of_methodNamed B.named B.method).1
        rw [hy] at this
        exact this
      · have : c.exceptionTable = #[] := by simpa using hempty
        rw [this]
    have hk1 := hK _ _ rfl rfl hCx hF lo _ s.heap [] 0 0 ⟨ai_entry vs (ai_mx cal), ⟨hPw, hDw.self, va_S.rf⟩, ⟨hok, ai_sm.rf⟩, by omega, by omega⟩
    rw [ai_beq hp0.1] at hk1
    obtain ⟨t, a1, o, b1, b2, b3⟩ := hk1 s₁ hh0 (Stand.of_body B)
    refine ⟨t, o, ?_, b1, b2, b3⟩
    rw [lg_entry_eq]
    exact a1
/-- THE SOUNDNESS OF THE ABSTRACT MACHINE: given the four hand-made contracts -/
theorem ai_ex_snd {l : Launch} (hprim : ∀ (e1 cal : Nat) (vs : List Value) (h : ai_Hp) (r : (Option Value ⊕ Nat) × ai_Hp), 300 ≤ cal → cal < 304 → ai_prim cal vs h = some r → ai_Con l e1 cal vs h r) : ∀ (n : Nat) {d mi b : Nat} {L st : List Value} {h : ai_Hp} (X : ai_Pk) (G : ai_Pg), X.2.1 = l → ai_Cx mi d X G → ai_Fin X G → ai_ex n d mi b L st h = some G.2.2.2.2.2.2.2.1 → ai_K1 X G (ai_pc mi b) L st h
  | 0, d, mi, b, L, st, h, X, G, hl, C, F, hs => by cases hs
  | n + 1, d, mi, b, L, st, h, X, G, hl, C, F, hs => by
    refine ai_blk_snd C F (rc := ai_ex n) ⟨fun d mi b L st h r H => ai_ex_po n H, fun e1 cal vs h r1 hc H => ?_⟩ (fun b' L' st' h' H => ai_ex_snd hprim n X G hl C F H) hs
    subst hl
    rcases hc with ⟨c1, c2⟩ | ⟨c1, c2⟩
    · have e : Nat.ble 300 cal = false := by
        cases hb : Nat.ble 300 cal with
        | false => rfl
        | true => have := Nat.le_of_ble_eq_true hb; omega
      rw [e] at H
      refine ai_con_of c1 c2 (ai_ex_po n H).1 (fun X' G' hl' hr' C' F' => ?_)
      subst hr'
      exact ai_ex_snd hprim n X' G' hl' C' F' H
    · have e : Nat.ble 300 cal = true := Nat.ble_eq_true_of_le c1
      rw [e] at H
      exact hprim e1 cal vs h r1 c1 c2 H
