/-! the five kinds of calls -/
theorem ai_mlt_v : (ai_mlt.all fun r => !(Nat.beq r.2.2.2.2.2.1 0) || !(r.2.2.2.2.2.2.1)) = true := by decide +kernel
theorem ai_mw_in {r : String × Nat × Nat × Nat × Nat × Nat × Bool × List Nat} (hr : r ∈ ai_mlt) : (r.2.2.2.2.2.2.1 = false → ∀ w ∈ ai_mw r, w ∈ ai_tb) ∧ (r.2.2.2.2.2.2.1 = true → (ai_mw r).headD .tt ∈ ai_nws ∧ ∀ w ∈ (ai_mw r).tail, w ∈ ai_tb) := by
  have h := List.all_eq_true.mp ai_mlt_ok r hr
  refine ⟨fun hn => ?_, fun hn => ?_⟩
  · rw [hn] at h
    exact fun w hw => ai_tb_in (ai_was_in h w hw)
  · rw [hn] at h
    simp only [cond_true, Bool.and_eq_true] at h
    exact ⟨List.mem_append_right _ (List.mem_map.mpr ⟨r, List.mem_filter.mpr ⟨hr, hn⟩, rfl⟩), fun w hw => ai_tb_in (ai_was_in h.2 w hw)⟩
/-- what the table says of a call -/
def ai_Row (mi pc i kd cal n ci hd : Nat) (nst : Bool) : Prop := (nst = false → Cond.methodLink (ai_own mi) i (ai_y cal) ∈ ai_tb) ∧ (nst = true → Cond.methodLinkNest (ai_own mi) i (ai_y cal) "CourtProgress" ∈ ai_nws) ∧ ((kd = 0 → nst = false ∧ Cond.instanceMethod (ai_y cal) ∈ ai_tb ∧ Cond.selects (ai_y cal).cls (ai_y cal) (ai_y cal) ∈ ai_tb) ∧ (kd = 1 → Cond.static (ai_y cal) ∈ ai_tb) ∧ (kd = 2 → Cond.instanceMethod (ai_y cal) ∈ ai_tb ∧ (ai_y cal).name = "<init>")) ∧ Cond.initialized (ai_y cal).cls ∈ ai_tb ∧ (((ai_y cal).cls ≠ "java/lang/invoke/MethodHandle" ∧ (ai_y cal).cls ≠ "java/lang/invoke/VarHandle") ∧ (parseMethodDescriptor (ai_y cal).desc).map (fun d => d.parameters.length) = some (bif Nat.beq kd 1 then n else n - 1)) ∧ ((hd = 0 ∨ (mi = 174 ∧ 50 ≤ pc ∧ pc < 54 ∧ ai_pc 174 hd = 57 ∧ kd = 0)) ∧ (kd = 1 → ci = 999) ∧ (kd ≠ 1 → 1 ≤ n ∧ ((ci = 998 ∧ (cal = 300 ∨ cal = 301)) ∨ (ci < 12 ∧ (ai_C ci).1 = (ai_y cal).cls)))) ∧ (ai_thr cal = true → kd = 0) ∧ kd < 3
theorem ai_iok_spec {mi pc i kd : Nat} {aux : List Nat} (hk : kd < 3) (h : ai_iok mi pc i kd aux = true) : ∃ (cal n ci hd k : Nat) (nst : Bool), aux = [cal, n, ci, hd, k] ∧ ai_Row mi pc i kd cal n ci hd nst := by
  unfold ai_iok at h
  split at h
  · rename_i cal n ci hd k
    split at h
    · rename_i r hr
      simp only [Bool.and_eq_true, decide_eq_true_eq] at h
      obtain ⟨⟨h1, h2, h3, h4, h5, h6, -⟩, h8, h9⟩ := h
      obtain rfl := ai_beq h2
      obtain rfl := ai_beq h3
      obtain rfl := ai_beq h4
      obtain rfl := ai_beq h5
      obtain rfl := ai_beq h6
      have hm := List.mem_of_getElem? hr
      have hn := List.all_eq_true.mp ai_mlt_n r hm
      simp only [Bool.and_eq_true, decide_eq_true_eq] at hn
      obtain ⟨n1, n2, n3, n4⟩ := hn
      have hw := ai_mw_in hm
      have hv := List.all_eq_true.mp ai_mlt_v r hm
      have ht := List.all_eq_true.mp ai_thr_kd r hm
      have tl : ∀ w ∈ (ai_mw r).tail, w ∈ ai_tb := by
        cases hnst : r.2.2.2.2.2.2.1 with
        | false => exact fun w hw' => hw.1 hnst w (List.mem_of_mem_tail hw')
        | true => exact (hw.2 hnst).2
      refine ⟨_, _, _, hd, k, r.2.2.2.2.2.2.1, rfl, fun hnst => ?_, fun hnst => ?_, ⟨fun hk0 => ?_, fun hk0 => ?_, fun hk0 => ?_⟩, ?_, ⟨⟨n1, n2⟩, n3⟩, ⟨?_, fun hk0 => ?_, fun hk0 => ?_⟩, fun hthr => ?_, hk⟩
      · have := hw.1 hnst (Cond.methodLink r.1 r.2.1 (ai_y r.2.2.1)) (by unfold ai_mw; rw [hnst]; exact List.mem_cons_self)
        rw [← h1]; exact this
      · have := (hw.2 hnst).1
        unfold ai_mw at this
        rw [hnst] at this
        rw [← h1]; exact this
      · refine ⟨?_, tl _ ?_, tl _ ?_⟩
        · rw [hk0] at hv
          simpa using hv
        · unfold ai_mw; rw [hk0]; simp
        · unfold ai_mw; rw [hk0]; simp
      · refine tl _ ?_
        unfold ai_mw; rw [hk0]; simp
      · refine ⟨tl _ ?_, n4 hk0⟩
        unfold ai_mw; rw [hk0]; simp
      · refine tl _ ?_
        unfold ai_mw
        rcases (show r.2.2.2.2.2.1 = 0 ∨ r.2.2.2.2.2.1 = 1 ∨ r.2.2.2.2.2.1 = 2 by omega) with q | q | q <;> rw [q] <;> simp
      · cases hz : Nat.beq hd 0 with
        | true => exact Or.inl (ai_beq hz)
        | false =>
          rw [hz] at h8
          simp only [cond_false, Bool.and_eq_true] at h8
          exact Or.inr ⟨ai_beq h8.1, Nat.le_of_ble_eq_true h8.2.1, Nat.blt_eq.mp h8.2.2.1, ai_beq h8.2.2.2.1, ai_beq h8.2.2.2.2⟩
      · rw [hk0] at h9
        exact ai_beq h9
      · have : Nat.beq r.2.2.2.2.2.1 1 = false := by
          cases hb : Nat.beq r.2.2.2.2.2.1 1 with
          | false => rfl
          | true => exact absurd (ai_beq hb) hk0
        rw [this] at h9
        simp only [cond_false, Bool.and_eq_true] at h9
        refine ⟨Nat.le_of_ble_eq_true h9.1, ?_⟩
        have h10 := h9.2
        cases hb : (Nat.beq r.2.2.1 300 || Nat.beq r.2.2.1 301) with
        | true =>
          rw [hb] at h10
          left
          refine ⟨ai_beq h10, ?_⟩
          rcases Bool.or_eq_true _ _ |>.mp hb with q | q
          · exact Or.inl (ai_beq q)
          · exact Or.inr (ai_beq q)
        | false =>
          rw [hb] at h10
          simp only [cond_false, Bool.and_eq_true, decide_eq_true_eq] at h10
          exact Or.inr ⟨Nat.blt_eq.mp h10.1, h10.2⟩
      · rw [hthr] at ht
        simp only [Bool.not_true, Bool.false_or, Bool.and_eq_true] at ht
        exact ai_beq ht.1
    · cases h
  · cases h
theorem ai_good1 {w : Cond} (h : w ∈ ai_tb) : GoodIn ai_tb (w :: ai_tb) := by
  intro v hv
  rcases List.mem_cons.mp hv with rfl | hv
  · exact ai_tb_good _ h
  · exact ai_tb_good _ hv
theorem ai_recv1 {D : va_G} {cs : ClassId × ClassId × ClassId} {ad adV : Nat → Nat} {A : Nat → Prop} {s : State} {H : Heap} {locs : List Loc} {lo : Nat → Nat} {h : ai_Hp} {ci cal : Nat} {v0 : Value} {vs : List Value} (hSt : ai_Sta D cs ad adV A s) (hP : va_P D ai_cl (ai_w cs lo h) H) (hS : va_S A s.heap H locs) (hrv : ai_rcv h ci (v0 :: vs) = true) (hci : (ci = 998 ∧ (cal = 300 ∨ cal = 301)) ∨ (ci < 12 ∧ (ai_C ci).1 = (ai_y cal).cls)) : ∃ b, ai_tv lo (ai_skk ad) v0 = .ref b ∧ ∃ cellB : Cell, H[b]? = some cellB ∧ cellB.vm.isStatics = false ∧ s.vm.findClass (ai_y cal).cls = some cellB.cls := by
  unfold ai_rcv at hrv
  have e9 : Nat.beq ci 999 = false := by
    cases hb : Nat.beq ci 999 with
    | false => rfl
    | true => have := ai_beq hb; omega
  rw [e9] at hrv
  dsimp only [cond_false] at hrv
  rcases hci with ⟨rfl, hcal⟩ | ⟨hlt, hC⟩
  · have e : (ai_y cal).cls = "java/lang/String" := by
      rcases hcal with rfl | rfl <;> decide +kernel
    rw [e]
    split at hrv
    · rename_i a _ heq
      cases heq
      have := ai_obj_spec hrv
      obtain ⟨r, h1, -⟩ := hP a _ (ai_w_get this)
      exact absurd h1 (by simp [ai_cl])
    · rename_i j _ heq
      cases heq
      have hj : ((ai_stk[j]?).map (fun r => r.2.2.1)).getD 0 < 10 := by
        cases hq : ai_stk[j]? with
        | none => simp
        | some r =>
          have key : ∀ r ∈ ai_stk, r.2.2.1 < 10 := by decide +kernel
          exact key r (List.mem_of_getElem? hq)
      have hz := vk_recv (adK := ad) hSt.2.2.2.1 hj hS
      exact ⟨_, rfl, hz⟩
    · cases hrv
  · split at hrv
    · rename_i a _ heq
      cases heq
      obtain ⟨CC, T, N, ty, g1, g2, -⟩ := ai_cls hlt
      refine ⟨_, rfl, ?_⟩
      have := va_recv hSt.1 hP g1 (ai_w_get (ai_obj_spec hrv))
      rw [g2] at hC
      rw [← hC]
      exact this
    · have := ai_beq hrv
      omega
    · cases hrv
def ai_ivk (kd i : Nat) : Instr := match kd with
  | 0 => .invokevirtual i
  | 1 => .invokestatic i
  | _ => .invokespecial i
set_option maxHeartbeats 4000000 in
/-- a call that returns -/
theorem ai_callR {p : Program} {l : Launch} {e : Env} {R : Room} {s : State} {m : MethodId} {args : Array Value} {below : List Frame} {meth : Method} {c : Code} {H : Heap} {locs : List Loc} {cells slots : Nat} {Q : State → Prop} {D : va_G} {cs : ClassId × ClassId × ClassId} {ad adV : Nat → Nat} {A : Nat → Prop} {h0 : ai_Hp} {lo0 : Nat → Nat} {r : (Option Value ⊕ Nat) × ai_Hp} {mc ms : Nat} {lo : Nat → Nat} {mi e1 : Nat} (C : ai_Cx mi (e1 + 1) (p, l, e, R, s, m, args, below, meth, c) (D, cs, ad, adV, A, h0, lo0, r, mc, ms, Q)) {pc i kd cal n ci hd : Nat} {nst : Bool} (hrow : ai_Row mi pc i kd cal n ci hd nst) (hdc : decode (ai_bts mi) pc = .ok (ai_ivk kd i, 3)) {L vs rs : List Value} {h h1 : ai_Hp} {v : Option Value} {ls : Array Slot} (hvn : vs.length = n) (hfL : ai_fr h.2.1 L = true) (hfr : ai_fr h.2.1 rs = true) (hwt : ai_wt rs ≤ 8) (hrv : ai_rcv h ci vs = true) (hLl : L.length = ai_mx mi) (hcon : ai_Con l e1 cal vs h (.inl v, h1)) (hm : h.1.1 ≤ h1.1.1 ∧ h.1.2 ≤ h1.1.2) (hm2 : h1.1.1 ≤ r.2.1.1 ∧ h1.1.2 ≤ r.2.1.2)
    (S : ai_St (p, l, e, R, s, m, args, below, meth, c) (D, cs, ad, adV, A, h0, lo0, r, mc, ms, Q) lo L h ls H locs cells slots) (kk : ai_K1 (p, l, e, R, s, m, args, below, meth, c) (D, cs, ad, adV, A, h0, lo0, r, mc, ms, Q) (pc + 3) L (v.toList ++ rs) h1) : W p l e R s m args below meth c H locs cells slots Q (F0 m pc ls ((vs.reverse ++ rs).map (ai_tv lo (ai_skk ad)))) := by
  obtain ⟨⟨hx, hb, -, hml, hown, hts⟩, -, hSt, ⟨hfrm, hloc, hmc, hms⟩, hA, -⟩ := C
  obtain ⟨hl, ⟨hP, hD, hS⟩, ⟨hok, hsm⟩, hc1, hc2⟩ := id S
  obtain ⟨hr1, hr2, ⟨hr3, hr4, hr5⟩, hr6, ⟨hr7, hr8⟩, ⟨-, hr10, hr11⟩, -, hr12⟩ := hrow
  obtain ⟨bytes, maxL, ret, hcw, hmx, hrn, hMet⟩ := hcon
  have hM := ai_met (hMet D cs ad adV lo H.size)
  have hfit : cells + (h1.1.1 - h.1.1) ≤ R.cells ∧ slots + (h1.1.2 - h.1.2) ≤ R.slots := by omega
  have hroom : (ai_rm e1 h (.inl v, h1)).frames + 1 ≤ R.frames ∧ 8 + (maxL + 11) + (ai_rm e1 h (.inl v, h1)).locals ≤ R.locals := by
    simp only [ai_rm]; omega
  have hwt2 : ((rs.map (ai_tv lo (ai_skk ad))).map fun v => v.category).sum ≤ 8 := Nat.le_trans (ai_wt_tv rs) hwt
  have hsz : ls.size = ai_mx mi := hl.1.trans hLl
  rcases (show kd = 0 ∨ kd = 1 ∨ kd = 2 by omega) with rfl | rfl | rfl
  · obtain ⟨rfl, hin, hsel⟩ := hr3 rfl
    obtain ⟨hn1, hci⟩ := hr11 (by decide)
    cases vs with
    | nil => simp at hvn; omega
    | cons v0 vs =>
      obtain ⟨b, hb0, hcell⟩ := ai_recv1 (cal := cal) hSt hP hS hrv hci
      refine ai_goon S hA (va_runV (C := (ai_y cal).cls) (As := vs.map (ai_tv lo (ai_skk ad))) (n := n - 1) ⟨hx, hb, hml, hown, hts⟩ hM ⟨callB_of (n - 1) hts (ai_good1 hcw) rfl rfl rfl (hts _ hr6) (hts _ (hr1 rfl)) ⟨hr7.1, hr7.2, hr8⟩ hroom, hts _ hin, hts _ hsel⟩ ⟨ai_blind, hcell, ai_PcU (by rw [List.map_cons, hb0]) hP hD hS hok hSt hA⟩ rfl (by simp at hvn ⊢; omega) hsz ?_ (lv_room hwt2) hdc hfit) hm hfL hfr kk
      simp [hb0]
  · cases nst with
    | false =>
      refine ai_goon S hA (va_runS (As := vs.map (ai_tv lo (ai_skk ad))) (n := n) ⟨hx, hb, hml, hown, hts⟩ hM ⟨callB_of n hts (ai_good1 hcw) rfl rfl rfl (hts _ hr6) (hts _ (hr1 rfl)) ⟨hr7.1, hr7.2, hr8⟩ hroom, hts _ (hr4 rfl)⟩ ⟨ai_blind, ai_PcU rfl hP hD hS hok hSt hA⟩ rfl (by simpa using hvn) hsz ?_ (lv_room hwt2) hdc hfit) hm hfL hfr kk
      simp
    | true =>
      refine ai_goon S hA (va_runSN (host := "CourtProgress") (As := vs.map (ai_tv lo (ai_skk ad))) (n := n) ⟨hx, hb, hml, hown, hts⟩ hM ⟨va_cnB n hts (ai_good1 hcw) rfl rfl rfl (hSt.2.1 _ (hr2 rfl)) (hts _ hr6) ⟨hr7.1, hr7.2, hr8⟩ hroom, hts _ (hr4 rfl), trivial⟩ ⟨ai_blind, ai_PcU rfl hP hD hS hok hSt hA⟩ rfl (by simpa using hvn) hsz ?_ (lv_room hwt2) hdc hfit) hm hfL hfr kk
      simp
  · obtain ⟨hin, hnm⟩ := hr5 rfl
    obtain ⟨hn1, hci⟩ := hr11 (by decide)
    cases vs with
    | nil => simp at hvn; omega
    | cons v0 vs =>
      obtain ⟨b, hb0, hcell⟩ := ai_recv1 (cal := cal) hSt hP hS hrv hci
      obtain rfl := hrn hnm
      cases nst with
      | false =>
        refine ai_goon S hA (va_runI (b := b) (As := vs.map (ai_tv lo (ai_skk ad))) (n := n - 1) ⟨hx, hb, hml, hown, hts⟩ hM ⟨callB_of (n - 1) hts (ai_good1 hcw) rfl rfl rfl (hts _ hr6) (hts _ (hr1 rfl)) ⟨hr7.1, hr7.2, hr8⟩ hroom, hnm, hts _ hin⟩ ⟨ai_blind, ai_PcU (by rw [List.map_cons, hb0]) hP hD hS hok hSt hA⟩ rfl (by simp at hvn ⊢; omega) hsz ?_ (lv_room hwt2) hdc hfit) hm hfL hfr kk
        simp [hb0]
      | true =>
        refine ai_goon S hA (va_runIN (host := "CourtProgress") (b := b) (As := vs.map (ai_tv lo (ai_skk ad))) (n := n - 1) ⟨hx, hb, hml, hown, hts⟩ hM ⟨va_cnB (n - 1) hts (ai_good1 hcw) rfl rfl rfl (hSt.2.1 _ (hr2 rfl)) (hts _ hr6) ⟨hr7.1, hr7.2, hr8⟩ hroom, hnm, hts _ hin⟩ ⟨ai_blind, ai_PcU (by rw [List.map_cons, hb0]) hP hD hS hok hSt hA⟩ rfl (by simp at hvn ⊢; omega) hsz ?_ (lv_room hwt2) hdc hfit) hm hfL hfr kk
        simp [hb0]
