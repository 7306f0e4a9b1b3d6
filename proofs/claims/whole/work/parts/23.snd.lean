/-! every instruction; every block; every run -/
set_option maxHeartbeats 4000000 in
theorem ai_callT {p : Program} {l : Launch} {e : Env} {R : Room} {s : State} {m : MethodId} {args : Array Value} {below : List Frame} {meth : Method} {c : Code} {H : Heap} {locs : List Loc} {cells slots : Nat} {Q : State → Prop} {D : va_G} {cs : ClassId × ClassId × ClassId} {ad adV : Nat → Nat} {A : Nat → Prop} {h0 : ai_Hp} {lo0 : Nat → Nat} {r : (Option Value ⊕ Nat) × ai_Hp} {mc ms : Nat} {lo : Nat → Nat} {mi e1 : Nat} (C : ai_Cx mi (e1 + 1) (p, l, e, R, s, m, args, below, meth, c) (D, cs, ad, adV, A, h0, lo0, r, mc, ms, Q)) {pc i cal n ci hd : Nat} {nst : Bool} (hrow : ai_Row mi pc i 0 cal n ci hd nst) (hdc : decode (ai_bts mi) pc = .ok (.invokevirtual i, 3)) {L vs rs : List Value} {h h1 : ai_Hp} {a : Nat} {ls : Array Slot} (hvn : vs.length = n) (hfL : ai_fr h.2.1 L = true) (hwt : ai_wt rs ≤ 8) (hrv : ai_rcv h ci vs = true) (hLl : L.length = ai_mx mi) (hcon : ai_Con l e1 cal vs h (.inr a, h1)) (hm : h.1.1 ≤ h1.1.1 ∧ h.1.2 ≤ h1.1.2) (hm2 : h1.1.1 ≤ r.2.1.1 ∧ h1.1.2 ≤ r.2.1.2)
    (S : ai_St (p, l, e, R, s, m, args, below, meth, c) (D, cs, ad, adV, A, h0, lo0, r, mc, ms, Q) lo L h ls H locs cells slots)
    (kk : ∀ (lo1 : Nat → Nat) (T1 : State) (locs1 : List Loc) (cells1 slots1 : Nat), Stand p l e R s m args below meth c T1 locs1 cells1 slots1 → ai_St (p, l, e, R, s, m, args, below, meth, c) (D, cs, ad, adV, A, h0, lo0, r, mc, ms, Q) lo1 L h1 ls T1.heap locs1 cells1 slots1 → ∃ t, Steps p.tables e below ((T1.setTop (F0 m pc ls (rs.map (ai_tv lo (ai_skk ad))))).pushFrame (.throwing (lo1 a))) t ∧ Q t) : W p l e R s m args below meth c H locs cells slots Q (F0 m pc ls ((vs.reverse ++ rs).map (ai_tv lo (ai_skk ad)))) := by
  obtain ⟨⟨hx, hb, -, hml, hown, hts⟩, -, hSt, ⟨hfrm, hloc, hmc, hms⟩, hA, -⟩ := C
  obtain ⟨hl, ⟨hP, hD, hS⟩, ⟨hok, hsm⟩, hc1, hc2⟩ := id S
  obtain ⟨hr1, -, ⟨hr3, -, -⟩, hr6, ⟨hr7, hr8⟩, ⟨-, -, hr11⟩, -, -⟩ := hrow
  obtain ⟨bytes, maxL, ret, hcw, hmx, -, hMet⟩ := hcon
  have hfit : cells + (h1.1.1 - h.1.1) ≤ R.cells ∧ slots + (h1.1.2 - h.1.2) ≤ R.slots := by omega
  have hroom : (ai_rm e1 h (.inr a, h1)).frames + 1 ≤ R.frames ∧ 8 + (maxL + 11) + (ai_rm e1 h (.inr a, h1)).locals ≤ R.locals := by
    simp only [ai_rm]; omega
  have hwt2 : ((rs.map (ai_tv lo (ai_skk ad))).map fun v => v.category).sum ≤ 8 := Nat.le_trans (ai_wt_tv rs) hwt
  have hsz : ls.size = ai_mx mi := hl.1.trans hLl
  obtain ⟨rfl, hin, hsel⟩ := hr3 rfl
  obtain ⟨hn1, hci⟩ := hr11 (by decide)
  have hsub := ai_subA hD hS hA
  cases vs with
  | nil => simp at hvn; omega
  | cons v0 vs =>
    obtain ⟨b, hb0, hcell⟩ := ai_recv1 (cal := cal) hSt hP hS hrv hci
    intro T hT Y
    obtain ⟨x, st₀, t, T1, Ls, g0, X1, hL, e1', ⟨⟨lo1, hv, q1, q2, q3, q4⟩, hz, hkp⟩, stp⟩ := ai_runVT (C := (ai_y cal).cls) (As := vs.map (ai_tv lo (ai_skk ad))) (n := n - 1) (g := F0 m pc ls (((v0 :: vs).reverse ++ rs).map (ai_tv lo (ai_skk ad)))) (rest := rs.map (ai_tv lo (ai_skk ad))) ⟨hx, hb, hml, hown, hts⟩ (hMet D cs ad adV lo H.size) (fun _ _ _ _ hq => by obtain ⟨⟨lo1, ho, -⟩, -⟩ := hq; exact ⟨_, ho⟩) ⟨callB_of (n - 1) hts (ai_good1 hcw) rfl rfl rfl (hts _ hr6) (hts _ (hr1 rfl)) ⟨hr7.1, hr7.2, hr8⟩ hroom, hts _ hin, hts _ hsel⟩ ⟨ai_blind, hcell, ai_PcU (by rw [List.map_cons, hb0]) hP hD hS hok hSt hA⟩ rfl (by simp at hvn ⊢; omega) hsz (by simp [hb0]) (lv_room hwt2) hdc hfit hT Y
    rw [g0] at hz hkp
    have hx1 : x = lo1 a := by
      have : Outcome.threw x = .threw (lo1 a) := hv
      cases this
      rfl
    subst hx1
    have S1 : ai_St (p, l, e, R, s, m, args, below, meth, c) (D, cs, ad, adV, A, h0, lo0, r, mc, ms, Q) lo1 L h1 ls T1.heap (locs ++ Ls) (cells + (h1.1.1 - h.1.1)) (slots + (h1.1.2 - h.1.2)) := by
      refine ⟨?_, ⟨by rw [e1']; exact q1, q2.weaken (fun k q _ h => hsub q.1 h), Nat.le_trans hS.1 (by rw [e1']; exact hz), fun q k1 k2 => ?_, fun q hq => ?_⟩, ⟨q3, hsm.tr q4⟩, ?_, ?_⟩
      · show lv_has ls L.length (ai_ll lo1 (ai_skk ad) L)
        rw [ai_ll_lo (ai_fr_tv hfL q4)]
        exact hl
      · rw [e1', hkp q (Nat.lt_of_lt_of_le k1 hS.1) (fun z => k2 (hsub q z))]
        exact hS.2.1 q k1 k2
      · rcases List.mem_append.mp hq with h | h
        · exact hS.2.2 q h
        · exact hsub _ (hL q h)
      · omega
      · omega
    obtain ⟨t2, a1, b1⟩ := kk lo1 T1 _ _ _ X1 S1
    exact ⟨t2, stp t2 a1, b1⟩
theorem ai_wS {r : String × Nat × Nat × List Nat} (hr : r ∈ ai_clt) : ∀ w ∈ ai_cw r, w ∈ ai_tb := fun w hw => ai_tb_in (ai_was_in (List.all_eq_true.mp ai_clt_ok r hr) w hw)
theorem ai_stop_link : Cond.classLink "CourtProgressModel" 86 "CourtProgressModel$Stop" ∈ ai_tb := by
  have key : (ai_clt.any fun r => decide (r.1 = "CourtProgressModel") && (Nat.beq r.2.1 86 && decide ((ai_C r.2.2.1).1 = "CourtProgressModel$Stop"))) = true := by decide +kernel
  obtain ⟨r, hr, h⟩ := List.any_eq_true.mp key
  simp only [Bool.and_eq_true, decide_eq_true_eq] at h
  obtain ⟨h1, h2, h3⟩ := h
  have := ai_wS hr (Cond.classLink r.1 r.2.1 (ai_C r.2.2.1).1) (by simp [ai_cw])
  rw [h1, ai_beq h2, h3] at this
  exact this
set_option maxHeartbeats 4000000 in
theorem ai_snd_inv {X : ai_Pk} {G : ai_Pg} {mi d : Nat} (C : ai_Cx mi d X G) (F : ai_Fin X G) {rc : ai_Rec} {k : ai_K} {pc i kd cal n ci hd : Nat} {nst : Bool} {L st : List Value} {h : ai_Hp} (hrow : ai_Row mi pc i kd cal n ci hd nst) (hdc : decode (ai_bts mi) pc = .ok (ai_ivk kd i, 3)) (hnt : (!(ai_thr cal) || (ai_thr mi || !(Nat.beq hd 0))) = true)
    (hk : ∀ L' st' h', k L' st' h' = some G.2.2.2.2.2.2.2.1 → ai_K1 X G (pc + 3) L' st' h') (hkm : ∀ L' st' h', k L' st' h' = some G.2.2.2.2.2.2.2.1 → ai_Po mi h' G.2.2.2.2.2.2.2.1) (hrc : ∀ b L' st' h', rc d mi b L' st' h' = some G.2.2.2.2.2.2.2.1 → ai_K1 X G (ai_pc mi b) L' st' h')
    (hrm : ∀ d mi b L' st' h' r, rc d mi b L' st' h' = some r → ai_Po mi h' r) (hcon : ∀ e1 vs r1, d = e1 + 1 → cond (Nat.ble 300 cal) (ai_prim cal vs h) (rc e1 cal 0 (ai_ent (ai_mx cal) vs) [] h) = some r1 → ai_Con X.2.1 e1 cal vs h r1)
    (hs : ai_inv rc d mi cal n ci hd L st h k = some G.2.2.2.2.2.2.2.1) : ai_K1 X G pc L st h := by
  unfold ai_inv at hs
  cases d with
  | zero => cases hs
  | succ e1 =>
    dsimp only at hs
    cases hcb : (Nat.ble n st.length && (ai_fr h.2.1 L && (ai_fr h.2.1 (st.drop n) && (Nat.ble (ai_wt (st.drop n)) 8 && (ai_rcv h ci (st.take n).reverse && Nat.beq L.length (ai_mx mi)))))) with
    | false => rw [hcb] at hs; cases hs
    | true =>
      rw [hcb] at hs
      simp only [Bool.and_eq_true] at hcb
      obtain ⟨c1, c2, c3, c4, c5, c6⟩ := hcb
      have hle := Nat.le_of_ble_eq_true c1
      have hLl := ai_beq c6
      have hwt := Nat.le_of_ble_eq_true c4
      have hvn : (st.take n).reverse.length = n := by simp; omega
      have hst : st = ((st.take n).reverse).reverse ++ st.drop n := by simp
      dsimp only [cond_true] at hs
      cases hxx : (cond (Nat.ble 300 cal) (ai_prim cal (st.take n).reverse h) (rc e1 cal 0 (ai_ent (ai_mx cal) (st.take n).reverse) [] h)) with
      | none => rw [hxx] at hs; cases hs
      | some q =>
        rw [hxx] at hs
        have hC1 := hcon e1 _ q rfl hxx
        have hq : (h.1.1 ≤ q.2.1.1 ∧ h.1.2 ≤ q.2.1.2) ∧ ∀ a, q.1 = .inr a → ai_thr cal = true ∧ ai_obj q.2 a 10 = true := by
          cases hc : Nat.ble 300 cal with
          | true =>
            rw [hc] at hxx
            obtain ⟨g1, v, g2⟩ := ai_prim_po hxx
            exact ⟨g1, fun a ha => by rw [g2] at ha; cases ha⟩
          | false =>
            rw [hc] at hxx
            exact hrm _ _ _ _ _ _ _ hxx
        obtain ⟨o, h1⟩ := q
        unfold ai_back at hs
        generalize hvs : (st.take n).reverse = vs at *
        generalize hrs : st.drop n = rs at *
        subst hst
        obtain ⟨p, l, e, R, s, m, args, below, meth, c⟩ := X
        obtain ⟨D, cs, ad, adV, A, h0, lo0, r, mc, ms, Q⟩ := G
        dsimp only at hs hk hkm hrc hC1 hq
        intro lo ls H locs cells slots S
        cases o with
        | inl v =>
          cases v with
          | none => exact ai_callR C hrow hdc hvn c2 c3 hwt c5 hLl hC1 hq.1 (hkm _ _ _ hs).1 S (hk _ _ _ hs)
          | some v => exact ai_callR C hrow hdc hvn c2 c3 hwt c5 hLl hC1 hq.1 (hkm _ _ _ hs).1 S (hk _ _ _ hs)
        | inr a =>
          obtain ⟨ht, hob⟩ := hq.2 a rfl
          have hkd : kd = 0 := hrow.2.2.2.2.2.2.1 ht
          subst hkd
          rw [ht] at hnt
          dsimp only at hs
          have hmi := C.2.1
          cases hz : Nat.beq hd 0 with
          | true =>
            rw [hz] at hs hnt
            cases hs
            have hthr : ai_thr mi = true := by simpa using hnt
            have h174 : mi ≠ 174 := fun q => by rw [q] at hthr; cases hthr
            refine ai_callT C hrow hdc hvn c2 hwt c5 hLl hC1 hq.1 ⟨Nat.le_refl _, Nat.le_refl _⟩ S (fun lo1 T1 locs1 cells1 slots1 X1 S1 => ?_)
            obtain ⟨g0, g1, g2, g5, g6⟩ := X1.leaveThrown (lo1 a) (g := F0 m pc ls (rs.map (ai_tv lo (ai_skk ad)))) rfl rfl rfl (by rw [hmi.2.2.1 h174]; intro x hx; cases hx) hmi.1
            exact ⟨_, g0, ai_fin1 F S1 rfl g1 g2 rfl rfl g5 g6 S1.2.1.2.2.2.2⟩
          | false =>
            rw [hz] at hs
            have hhd : ¬ hd = 0 := fun q => by rw [q] at hz; cases hz
            obtain ⟨h174, hp1, hp2, hp3, -⟩ := hrow.2.2.2.2.2.1.1.resolve_left hhd
            refine ai_callT C hrow hdc hvn c2 hwt c5 hLl hC1 hq.1 (hrm _ _ _ _ _ _ _ hs).1 S (fun lo1 T1 locs1 cells1 slots1 X1 S1 => ?_)
            have htab := hmi.2.2.2 h174
            obtain ⟨x, hx1, hx2⟩ : ∃ x, c.exceptionTable.toList = [x] ∧ (x.startPc, x.endPc, x.handlerPc, x.catchType) = (50, 54, 57, 86) := by
              cases hl : c.exceptionTable.toList with
              | nil => rw [hl] at htab; cases htab
              | cons x tl =>
                rw [hl] at htab
                cases tl with
                | nil => exact ⟨x, rfl, by simpa using htab⟩
                | cons y tl => simp at htab
            simp only [Prod.mk.injEq] at hx2
            obtain ⟨x1, x2, x3, x4⟩ := hx2
            obtain ⟨q', hq', cell, hcell, hcls, hvm, -⟩ := S1.2.1.1 a _ (ai_w_get (ai_obj_spec hob))
            have hKn := C.2.2.1.1.1 10 _ (show ai_cl[10]? = some (RX10, TX10, 8) from rfl)
            have hown : s.vm.findClass "CourtProgressModel" = some m.cls := by
              have := C.1.2.2.2.2.1
              rw [h174] at this
              exact this
            obtain ⟨vm1, X2, hst⟩ := ai_catch X1 (a := lo1 a) (g := F0 m pc ls (rs.map (ai_tv lo (ai_skk ad)))) rfl hx1 (by simp [covers, x1, x2, hp1, hp2]) (by rw [x4]; decide) hown (C := "CourtProgressModel$Stop") (by rw [x4]; exact C.1.2.2.2.2.2 _ ai_stop_link) hcell hvm (by rw [hcls]; exact hKn.2.1)
            obtain ⟨t, a1, b1⟩ := hrc _ _ _ _ hs lo1 ls T1.heap locs1 cells1 slots1 S1 (T1.setVm vm1) rfl X2
            refine ⟨t, hst t ?_, b1⟩
            rw [h174, hp3] at a1
            rw [x3]
            exact a1
