/-! instructions on cells -/
def ai_fkd : Nat → FieldType → Bool
  | 0, .int => true
  | 1, .long => true
  | _ + 2, .object _ => true
  | _ + 2, .array _ => true
  | _, _ => false
def ai_Cls (ci : Nat) (C : String) (T : u_T) (N : Nat) (ty : Nat → FieldType) : Prop := ai_cl[ci]? = some (C, T, N) ∧ ai_C ci = (C, T, N) ∧ N = ai_nf ci ∧ (∀ w ∈ u_ws C T N, w ∈ ai_tb) ∧ (∀ k, k < N → parseFieldDescriptor (T k).2.2.1 = some (ty k)) ∧ (∀ a, a < N → ∀ b, b < N → a ≠ b → (T a).2.1 ≠ (T b).2.1) ∧ ∀ k, k < N → ai_fkd (ai_ft ci k) (ty k) = true
theorem ai_cls {ci : Nat} (h : ci < 12) : ∃ (C : String) (T : u_T) (N : Nat) (ty : Nat → FieldType), ai_Cls ci C T N ty := by
  match ci, h with
  | 0, _ => exact ⟨RX0, TX0, 3, tyX0, rfl, rfl, rfl, fun w h => ai_tb_in (ai_inX0 w h), tyX0_ok, nmX0, by decide +kernel⟩
  | 1, _ => exact ⟨RX1, TX1, 5, tyX1, rfl, rfl, rfl, fun w h => ai_tb_in (ai_inX1 w h), tyX1_ok, nmX1, by decide +kernel⟩
  | 2, _ => exact ⟨RX2, TX2, 16, tyX2, rfl, rfl, rfl, fun w h => ai_tb_in (ai_inX2 w h), tyX2_ok, nmX2, by decide +kernel⟩
  | 3, _ => exact ⟨RX3, TX3, 11, tyX3, rfl, rfl, rfl, fun w h => ai_tb_in (ai_inX3 w h), tyX3_ok, nmX3, by decide +kernel⟩
  | 4, _ => exact ⟨RX4, TX4, 5, tyX4, rfl, rfl, rfl, fun w h => ai_tb_in (ai_inX4 w h), tyX4_ok, nmX4, by decide +kernel⟩
  | 5, _ => exact ⟨RX5, TX5, 14, tyX5, rfl, rfl, rfl, fun w h => ai_tb_in (ai_inX5 w h), tyX5_ok, nmX5, by decide +kernel⟩
  | 6, _ => exact ⟨RX6, TX6, 5, tyX6, rfl, rfl, rfl, fun w h => ai_tb_in (ai_inX6 w h), tyX6_ok, nmX6, by decide +kernel⟩
  | 7, _ => exact ⟨RX7, TX7, 8, tyX7, rfl, rfl, rfl, fun w h => ai_tb_in (ai_inX7 w h), tyX7_ok, nmX7, by decide +kernel⟩
  | 8, _ => exact ⟨RX8, TX8, 6, tyX8, rfl, rfl, rfl, fun w h => ai_tb_in (ai_inX8 w h), tyX8_ok, nmX8, by decide +kernel⟩
  | 9, _ => exact ⟨RX9, TX9, 15, tyX9, rfl, rfl, rfl, fun w h => ai_tb_in (ai_inX9 w h), tyX9_ok, nmX9, by decide +kernel⟩
  | 10, _ => exact ⟨RX10, TX10, 8, tyX10, rfl, rfl, rfl, fun w h => ai_tb_in (ai_inX10 w h), tyX10_ok, nmX10, by decide +kernel⟩
  | 11, _ => exact ⟨RX11, TX11, 64, tyX11, rfl, rfl, rfl, fun w h => ai_tb_in (ai_inX11 w h), tyX11_ok, nmX11, by decide +kernel⟩
theorem ai_fok_spec {mi i : Nat} {aux : List Nat} (h : ai_fok mi i aux = true) : ∃ ci j fi : Nat, aux = [ci, j, ai_ft ci j, fi] ∧ j < ai_nf ci ∧ ci < 12 ∧ ∀ (C : String) (T : u_T) (N : Nat), ai_C ci = (C, T, N) → (Cond.fieldLink (ai_own mi) i (T j).1 (T j).2.1 (T j).2.2.1 ∈ ai_tb ∨ Cond.fieldLinkNest (ai_own mi) i (T j).1 (T j).2.1 (T j).2.2.1 "CourtProgressModel" ∈ ai_nws) := by
  unfold ai_fok at h
  split at h
  · rename_i ci j ty fi
    split at h
    · rename_i r hr
      simp only [Bool.and_eq_true, decide_eq_true_eq] at h
      obtain ⟨h1, h2, h3, h4, h5, h6, h7⟩ := h
      obtain rfl := ai_beq h3
      obtain rfl := ai_beq h4
      obtain rfl := ai_beq h5
      obtain rfl := ai_beq h2
      refine ⟨_, _, fi, rfl, Nat.blt_eq.mp h6, Nat.blt_eq.mp h7, fun C T N hC => ?_⟩
      rw [← h1]
      have hm := List.mem_of_getElem? hr
      have hw := List.all_eq_true.mp ai_flt_ok r hm
      cases hn : r.2.2.2.2.1 with
      | false =>
        rw [hn] at hw
        have e : ai_fw r = Cond.fieldLink r.1 r.2.1 (T r.2.2.2.1).1 (T r.2.2.2.1).2.1 (T r.2.2.2.1).2.2.1 := by
          unfold ai_fw; rw [hC, hn]; rfl
        left
        rw [← e]
        exact ai_tb_in (ai_wat_in hw)
      | true =>
        have e : ai_fw r = Cond.fieldLinkNest r.1 r.2.1 (T r.2.2.2.1).1 (T r.2.2.2.1).2.1 (T r.2.2.2.1).2.2.1 "CourtProgressModel" := by
          unfold ai_fw; rw [hC, hn]; rfl
        right
        rw [← e]
        exact List.mem_append_left _ (List.mem_map.mpr ⟨r, List.mem_filter.mpr ⟨hm, hn⟩, rfl⟩)
    · cases h
  · cases h
theorem ai_fv_0 {lo : Nat → Nat} {h : ai_Hp} {k ci j : Nat} (e : ai_ft ci j = 0) : ai_fv lo h k ci j = .int (h.2.2.2.1 k j) := by
  unfold ai_fv
  split <;> first | rfl | (rename_i q; rw [e] at q; cases q) | (rename_i q _; exact absurd e q)
theorem ai_fv_1 {lo : Nat → Nat} {h : ai_Hp} {k ci j : Nat} (e : ai_ft ci j = 1) : ai_fv lo h k ci j = .long (h.2.2.2.2 k j) := by
  unfold ai_fv
  split <;> first | rfl | (rename_i q; rw [e] at q; cases q) | (rename_i _ q; exact absurd e q)
theorem ai_fv_2 {lo : Nat → Nat} {h : ai_Hp} {k ci j : Nat} (e0 : ai_ft ci j ≠ 0) (e1 : ai_ft ci j ≠ 1) : ai_fv lo h k ci j = va_rf ((h.2.2.1 k j).map lo) := by
  unfold ai_fv
  split <;> first | rfl | (rename_i q; exact absurd q e0) | (rename_i q; exact absurd q e1)
theorem ai_fv_tv {lo sk : Nat → Nat} {h : ai_Hp} {a ci j : Nat} {v : Value} (hv : ai_getf a ci j (ai_ft ci j) h = some v) : ai_tv lo sk v = ai_fv lo h a ci j := by
  unfold ai_getf at hv
  cases ho : ai_obj h a ci with
  | false => rw [ho] at hv; cases hv
  | true =>
    rw [ho] at hv
    dsimp only [cond_true] at hv
    split at hv
    · rename_i q; cases hv; rw [ai_fv_0 q]; rfl
    · rename_i q; cases hv; rw [ai_fv_1 q]; rfl
    · rename_i h1 h2
      rw [ai_fv_2 h1 h2]
      cases hr : h.2.2.1 a j with
      | none => rw [hr] at hv; cases hv; rfl
      | some x => rw [hr] at hv; cases hv; rfl
theorem ai_getf_obj {h : ai_Hp} {a ci j ty : Nat} {v : Value} (hv : ai_getf a ci j ty h = some v) : h.2.1[a]? = some (0, ci) := by
  unfold ai_getf at hv
  cases ho : ai_obj h a ci with
  | false => rw [ho] at hv; cases hv
  | true => exact ai_obj_spec ho
set_option maxHeartbeats 4000000 in
theorem ai_snd_get {X : ai_Pk} {G : ai_Pg} {mi d : Nat} (C : ai_Cx mi d X G) {rc : ai_Rec} {k : ai_K} {i : Nat} {aux : List Nat} {cv : Int32} {pc len : Nat} {L st : List Value} {h : ai_Hp} (hd : decode (ai_bts mi) pc = .ok (.getfield i, len)) (hc : ai_opk mi pc len (.getfield i, aux, cv) = true)
    (hk : ∀ L' st' h', k L' st' h' = some G.2.2.2.2.2.2.2.1 → ai_K1 X G (pc + len) L' st' h')
    (hs : ai_step rc d mi (.getfield i, aux, cv) L st h k = some G.2.2.2.2.2.2.2.1) : ai_K1 X G pc L st h := by
  obtain ⟨p, l, e, R, s, m, args, below, meth, c⟩ := X
  obtain ⟨D, cs, ad, adV, A, h0, lo0, r, mc, ms, Q⟩ := G
  obtain ⟨⟨hx, hb, -, -, hown, hts⟩, -, ⟨hK, hN, -⟩, -⟩ := C
  dsimp only at hd hs hk
  intro lo ls H locs cells slots S
  obtain ⟨hl, ⟨hP, hD, hS⟩, hE⟩ := id S
  simp only [ai_opk, Bool.and_eq_true] at hc
  obtain rfl := ai_beq hc.1
  obtain ⟨ci, j, fi, rfl, hj, hci, hw⟩ := ai_fok_spec hc.2
  obtain ⟨CC, T, N, ty, g1, g2, g3, g4, g5, g6, g7⟩ := ai_cls hci
  dsimp only [ai_step] at hs
  split at hs
  · rename_i ci' j' ty' tl a r' heq
    cases heq
    split at hs
    · rename_i v hv
      have hob := ai_getf_obj hv
      have hget := ai_w_get (cs := cs) (lo := lo) hob
      have hkk := hk _ _ _ hs lo ls H locs cells slots S
      rw [List.map_cons, ai_fv_tv hv] at hkk
      rcases hw CC T N g2 with hw | hw
      · exact va_get (D := D) (cl := ai_cl) (ref := (T j).1) hx hb hts g4 hown hK hP a hget g1 j (by rw [g3]; exact hj) (hts _ hw) (fun _ h => h) (ai_fs_get hj) hd hkk
      · exact va_getN (D := D) (cl := ai_cl) (ref := (T j).1) (host := "CourtProgressModel") hx hb hts g4 hown hK hP a hget g1 j (by rw [g3]; exact hj) (va_Nw.use rfl (hN _ hw)) (fun _ h => h) (ai_fs_get hj) hd hkk
    · cases hs
  · cases hs
theorem ai_up_ne {M : Nat → Nat → Int32} {k i a : Nat} {v : Int32} (h : a ≠ k) : ai_up M k i v a = M a := by simp [ai_up, h]
theorem ai_up_eq {M : Nat → Nat → Int32} {k i : Nat} {v : Int32} : ai_up M k i v k = upd (M k) i v := by simp [ai_up]
theorem ai_uR_ne {M : Nat → Nat → Option Nat} {k i a : Nat} {v : Option Nat} (h : a ≠ k) : ai_uR M k i v a = M a := by funext j; simp [ai_uR, h]
theorem ai_uL_ne {M : Nat → Nat → Int64} {k i a : Nat} {v : Int64} (h : a ≠ k) : ai_uL M k i v a = M a := by simp [ai_uL, h]
/-- what putfield does, in the world's words -/
theorem ai_putf_spec {lo sk : Nat → Nat} {cs : ClassId × ClassId × ClassId} {h h1 : ai_Hp} {v : Value} {a ci j : Nat} (hp : ai_putf v a ci j (ai_ft ci j) h = some h1) (hok : ai_ok h) : h.2.1[a]? = some (0, ci) ∧ h1.1 = h.1 ∧ h1.2.1 = h.2.1 ∧ ai_ok h1 ∧ ai_w cs lo h1 = (ai_w cs lo h).set a (lo a, .inr (ci, (ai_fs lo h a ci).set j (ai_tv lo sk v))) ∧ ((ai_ft ci j = 0 ∧ ∃ x, v = .int x) ∨ (ai_ft ci j = 1 ∧ ∃ x, v = .long x) ∨ (ai_ft ci j = 2 ∧ (v = .null ∨ ∃ x, v = .ref x))) := by
  unfold ai_putf at hp
  cases ho : ai_obj h a ci with
  | false => rw [ho] at hp; cases hp
  | true =>
    have hob := ai_obj_spec ho
    rw [ho] at hp
    dsimp only [cond_true] at hp
    split at hp
    · rename_i x q
      cases hp
      refine ⟨hob, rfl, rfl, hok, ?_, Or.inl ⟨q, x, rfl⟩⟩
      rw [ai_w_set (h := h) (h1 := (h.1, h.2.1, h.2.2.1, ai_up h.2.2.2.1 a j x, h.2.2.2.2)) (a := a) (q := (0, ci)) rfl hob (fun k hk => ⟨rfl, ai_up_ne hk, rfl⟩)]
      show (ai_w cs lo h).set a (lo a, .inr (ci, ai_fs lo (h.1, h.2.1, h.2.2.1, ai_up h.2.2.2.1 a j x, h.2.2.2.2) a ci)) = _
      rw [ai_fs_set (h := h) (j := j) (v := ai_tv lo sk (.int x)) (by rw [ai_fv_0 q]; simp [ai_up_eq, upd, ai_tv]) (fun i hi => by
        unfold ai_fv
        dsimp only
        rw [ai_up_eq]
        simp [upd, hi])]
    · rename_i x q
      cases hp
      refine ⟨hob, rfl, rfl, hok, ?_, Or.inr (Or.inl ⟨q, x, rfl⟩)⟩
      rw [ai_w_set (h := h) (h1 := (h.1, h.2.1, h.2.2.1, h.2.2.2.1, ai_uL h.2.2.2.2 a j x)) (a := a) (q := (0, ci)) rfl hob (fun k hk => ⟨rfl, rfl, ai_uL_ne hk⟩)]
      show (ai_w cs lo h).set a (lo a, .inr (ci, ai_fs lo (h.1, h.2.1, h.2.2.1, h.2.2.2.1, ai_uL h.2.2.2.2 a j x) a ci)) = _
      rw [ai_fs_set (h := h) (j := j) (v := ai_tv lo sk (.long x)) (by rw [ai_fv_1 q]; simp [ai_uL, vp_updL, ai_tv]) (fun i hi => by
        unfold ai_fv
        dsimp only
        simp [ai_uL, vp_updL, hi])]
    · rename_i x q
      cases hb : Nat.blt x h.2.1.length with
      | false => rw [hb] at hp; cases hp
      | true =>
        rw [hb] at hp
        cases hp
        refine ⟨hob, rfl, rfl, ?_, ?_, Or.inr (Or.inr ⟨q, Or.inr ⟨x, rfl⟩⟩)⟩
        · intro k' j' v' hv'
          dsimp only [ai_uR] at hv'
          split at hv'
          · split at hv'
            · cases hv'; exact Nat.blt_eq.mp hb
            · exact hok _ _ _ hv'
          · exact hok _ _ _ hv'
        · rw [ai_w_set (h := h) (h1 := (h.1, h.2.1, ai_uR h.2.2.1 a j (some x), h.2.2.2.1, h.2.2.2.2)) (a := a) (q := (0, ci)) rfl hob (fun k hk => ⟨ai_uR_ne hk, rfl, rfl⟩)]
          show (ai_w cs lo h).set a (lo a, .inr (ci, ai_fs lo (h.1, h.2.1, ai_uR h.2.2.1 a j (some x), h.2.2.2.1, h.2.2.2.2) a ci)) = _
          rw [ai_fs_set (h := h) (j := j) (v := ai_tv lo sk (.ref x)) (by rw [ai_fv_2 (by rw [q]; decide) (by rw [q]; decide)]; simp [ai_uR, ai_tv, va_rf]) (fun i hi => by
            unfold ai_fv
            dsimp only
            simp [ai_uR, hi])]
    · rename_i q
      cases hp
      refine ⟨hob, rfl, rfl, ?_, ?_, Or.inr (Or.inr ⟨q, Or.inl rfl⟩)⟩
      · intro k' j' v' hv'
        dsimp only [ai_uR] at hv'
        split at hv'
        · split at hv'
          · cases hv'
          · exact hok _ _ _ hv'
        · exact hok _ _ _ hv'
      · rw [ai_w_set (h := h) (h1 := (h.1, h.2.1, ai_uR h.2.2.1 a j none, h.2.2.2.1, h.2.2.2.2)) (a := a) (q := (0, ci)) rfl hob (fun k hk => ⟨ai_uR_ne hk, rfl, rfl⟩)]
        show (ai_w cs lo h).set a (lo a, .inr (ci, ai_fs lo (h.1, h.2.1, ai_uR h.2.2.1 a j none, h.2.2.2.1, h.2.2.2.2) a ci)) = _
        rw [ai_fs_set (h := h) (j := j) (v := ai_tv lo sk .null) (by rw [ai_fv_2 (by rw [q]; decide) (by rw [q]; decide)]; simp [ai_uR, ai_tv, va_rf]) (fun i hi => by
          unfold ai_fv
          dsimp only
          simp [ai_uR, hi])]
    · cases hp
theorem ai_nws_nf (C : String) (T : u_T) (N ci j : Nat) {a : String} {i : Nat} {h : String} (g2 : ai_C ci = (C, T, N)) (hci : ci < 12) (hj : j < ai_nf ci) (hw : Cond.fieldLinkNest a i (T j).1 (T j).2.1 (T j).2.2.1 h ∈ ai_nws) : (T j).2.2.2 = false := by
  have key : ∀ ci, ci < 12 → ∀ j, j < ai_nf ci → ((ai_nws.any fun w => match w with
    | .fieldLinkNest _ _ o n _ _ => decide (o = ((ai_C ci).2.1 j).1) && decide (n = ((ai_C ci).2.1 j).2.1)
    | _ => false) = true → ((ai_C ci).2.1 j).2.2.2 = false) := by decide +kernel
  have := key ci hci j hj
  rw [g2] at this
  exact this (List.any_eq_true.mpr ⟨_, hw, by simp⟩)
/-- a value fits its field -/
theorem ai_fit {lo sk : Nat → Nat} {t : Nat} {ty : FieldType} {v : Value} (hf : ai_fkd t ty = true) (hv : (t = 0 ∧ ∃ x, v = .int x) ∨ (t = 1 ∧ ∃ x, v = .long x) ∨ (t = 2 ∧ (v = .null ∨ ∃ x, v = .ref x))) : narrow ty (ai_tv lo sk v) = ai_tv lo sk v ∧ fits ty (ai_tv lo sk v) = true := by
  rcases hv with ⟨rfl, x, rfl⟩ | ⟨rfl, x, rfl⟩ | ⟨rfl, rfl | ⟨x, rfl⟩⟩ <;> cases ty <;> simp [ai_fkd] at hf <;> exact ⟨rfl, rfl⟩
set_option maxHeartbeats 4000000 in
theorem ai_snd_put {X : ai_Pk} {G : ai_Pg} {mi d : Nat} (C : ai_Cx mi d X G) {rc : ai_Rec} {k : ai_K} {i : Nat} {aux : List Nat} {cv : Int32} {pc len : Nat} {L st : List Value} {h : ai_Hp} (hd : decode (ai_bts mi) pc = .ok (.putfield i, len)) (hc : ai_opk mi pc len (.putfield i, aux, cv) = true)
    (hk : ∀ L' st' h', k L' st' h' = some G.2.2.2.2.2.2.2.1 → ai_K1 X G (pc + len) L' st' h')
    (hs : ai_step rc d mi (.putfield i, aux, cv) L st h k = some G.2.2.2.2.2.2.2.1) : ai_K1 X G pc L st h := by
  obtain ⟨p, l, e, R, s, m, args, below, meth, c⟩ := X
  obtain ⟨D, cs, ad, adV, A, h0, lo0, r, mc, ms, Q⟩ := G
  obtain ⟨⟨hx, hb, -, -, hown, hts⟩, ⟨-, hmn, -, -⟩, ⟨hK, hN, -⟩, -⟩ := C
  dsimp only at hd hs hk
  intro lo ls H locs cells slots S
  obtain ⟨hl, ⟨hP, hD, hS⟩, ⟨hok, hsm⟩, hcs⟩ := id S
  simp only [ai_opk, Bool.and_eq_true] at hc
  obtain rfl := ai_beq hc.1
  obtain ⟨ci, j, fi, rfl, hj, hci, hw⟩ := ai_fok_spec hc.2.1
  have hpk := hc.2.2
  obtain ⟨CC, T, N, ty, g1, g2, g3, g4, g5, g6, g7⟩ := ai_cls hci
  have hjN : j < N := by rw [g3]; exact hj
  dsimp only [ai_step] at hs
  split at hs
  · rename_i ci' j' ty' tl v a r' heq
    cases heq
    split at hs
    · rename_i h1 hv
      obtain ⟨hob, e1, e2, hok1, hw1, hty⟩ := ai_putf_spec (lo := lo) (sk := ai_skk ad) (cs := cs) hv hok
      have hget := ai_w_get (cs := cs) (lo := lo) hob
      obtain ⟨f1, f2⟩ := ai_fit (lo := lo) (sk := ai_skk ad) (g7 j hjN) hty
      have hkk : ∀ (H1 : Heap) (locs1 : List Loc), va_P D ai_cl ((ai_w cs lo h).set a (lo a, .inr (ci, (ai_fs lo h a ci).set j (ai_tv lo (ai_skk ad) v)))) H1 → va_D A ((ai_w cs lo h).set a (lo a, .inr (ci, (ai_fs lo h a ci).set j (ai_tv lo (ai_skk ad) v)))) → va_S A s.heap H1 locs1 → W p l e R s m args below meth c H1 locs1 cells slots Q (F0 m (pc + 3) ls (r'.map (ai_tv lo (ai_skk ad)))) := by
        intro H1 locs1 q1 q2 q3
        rw [← hw1] at q1 q2
        exact hk _ _ _ hs lo ls H1 locs1 cells slots ⟨hl, ⟨q1, q2, q3⟩, ⟨hok1, fun k q hk hq => by rw [e2]; exact hsm k q hk hq⟩, by rw [e1]; exact hcs⟩
      rcases hw CC T N g2 with hw | hw
      · cases hfl : (T j).2.2.2 with
        | false => exact va_put (D := D) (cl := ai_cl) (ref := (T j).1) hx hb hts g4 ty g5 g6 hown hK hP hD hS a hget g1 j hjN (hts _ hw) (fun _ h => h) hfl (g5 j hjN) f1 f2 (by rw [ai_fs_len]; exact hj) hd hkk
        | true =>
          unfold ai_pok at hpk
          dsimp only at hpk
          rw [g2] at hpk
          dsimp only at hpk
          rw [hfl] at hpk
          simp only [cond_true, Bool.and_eq_true, decide_eq_true_eq] at hpk
          exact va_putF (D := D) (cl := ai_cl) (ref := (T j).1) hx hb hts g4 ty g5 g6 hown hK hP hD hS a hget g1 j hjN (hts _ hw) (fun _ h => h) hfl (hmn.trans hpk.1) hpk.2 (g5 j hjN) f1 f2 (by rw [ai_fs_len]; exact hj) hd hkk
      · have hfl : (T j).2.2.2 = false := by
          cases hfl : (T j).2.2.2 with
          | false => rfl
          | true =>
            have := ai_nws_nf CC T N ci j g2 hci hj hw
            rw [hfl] at this
            exact this
        exact va_putN (D := D) (cl := ai_cl) (ref := (T j).1) (host := "CourtProgressModel") hx hb hts g4 ty g5 g6 hown hK hP hD hS a hget g1 j hjN (va_Nw.use rfl (hN _ hw)) (fun _ h => h) hfl (g5 j hjN) f1 f2 (by rw [ai_fs_len]; exact hj) hd hkk
    · cases hs
  · cases hs
