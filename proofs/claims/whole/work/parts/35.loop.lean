/-! the law's loop, over any invariant of the two worlds -/
theorem lw_ck1_spec {c : lw_C} (h : lw_ck1 c = true) : (lw_d c.1 (.aload_n 1) 1 = true ∧ lw_ckA (c.1 + 1) c.2.1 = true ∧ lw_d (c.1 + 1 + lw_lnA c.2.1) (.invokevirtual c.2.2.1.1) 3 = true ∧ lw_d (c.1 + 1 + lw_lnA c.2.1 + 3) (.aload_n 2) 1 = true ∧ lw_ckA (c.1 + 1 + lw_lnA c.2.1 + 3 + 1) c.2.1 = true ∧ lw_d (c.1 + 1 + lw_lnA c.2.1 + 3 + 1 + lw_lnA c.2.1) (.invokevirtual c.2.2.2.1) 3 = true ∧ lw_d (c.1 + 1 + lw_lnA c.2.1 + 3 + 1 + lw_lnA c.2.1 + 3) (.if_icmp .eq ((1117 : Int) - ((c.1 + 1 + lw_lnA c.2.1 + 3 + 1 + lw_lnA c.2.1 + 3 : Nat) : Int))) 3 = true) ∧ lw_ckW c.2.2.1 c.2.1.length = true ∧ lw_ckW c.2.2.2 c.2.1.length = true ∧ (ai_y c.2.2.1.2.1).cls = "CourtProgress" ∧ (ai_y c.2.2.2.2.1).cls = "CourtProgressModel" := by
  simp only [lw_ck1, Bool.and_eq_true, decide_eq_true_eq] at h
  obtain ⟨a1, a2, a3, a4, a5, a6, a7, a8, a9, a10, a11⟩ := h
  exact ⟨⟨a1, a2, a3, a4, a5, a6, a7⟩, a8, a9, a10, a11⟩
theorem lw_ckW_spec {q : Nat × Nat × List Nat} {n : Nat} (h : lw_ckW q n = true) : (Cond.methodLink "CourtProgressLaw" q.1 (ai_y q.2.1) ∈ lw_tbl ∧ Cond.instanceMethod (ai_y q.2.1) ∈ lw_tbl ∧ Cond.selects (ai_y q.2.1).cls (ai_y q.2.1) (ai_y q.2.1) ∈ lw_tbl ∧ Cond.initialized (ai_y q.2.1).cls ∈ lw_tbl) ∧ q.2.1 < 216 ∧ ((ai_y q.2.1).cls ≠ "java/lang/invoke/MethodHandle" ∧ (ai_y q.2.1).cls ≠ "java/lang/invoke/VarHandle") ∧ (parseMethodDescriptor (ai_y q.2.1).desc).map (fun d => d.parameters.length) = some n := by
  simp only [lw_ckW, Bool.and_eq_true, decide_eq_true_eq] at h
  obtain ⟨a1, a2, a3, a4, a5⟩ := h
  have hw := ai_was_in a1
  exact ⟨⟨(hw _ (by simp)).1, (hw _ (by simp)).1, (hw _ (by simp)).1, (hw _ (by simp)).1⟩, Nat.blt_eq.mp a2, ⟨a3, a4⟩, a5⟩
theorem lw_mapi {lo sk : Nat → Nat} {α : Type} (g : α → Int32) (as : List α) : (as.map (fun a => Value.int (g a))).map (ai_tv lo sk) = as.map (fun a => Value.int (g a)) := by
  rw [List.map_map]
  rfl
section LLP
variable {p : Program} {l : Launch} {e : Env} {s : State} {m : MethodId} {args : Array Value} {below : List Frame} {meth : Method} {c : Code} {H : Heap} {locs : List Loc} {cells slots : Nat} {Q : State → Prop} {A : Nat → Prop} {b L i : Nat} {xs : Nat → Int32} {ls : Array Slot}
set_option maxHeartbeats 4000000 in
theorem lw_case {D : va_G} {cs : ClassId × ClassId × ClassId} {ad adV loC loM : Nat → Nat} {hC hM hC' hM' : ai_Hp} {v : Int32} {k : Nat} {cse : lw_C} (hx : p.tables.exec = Jvm.exec) (hb : c.code = code) (hml : c.maxLocals = 4) (hown : s.vm.findClass "CourtProgressLaw" = some m.cls) (hts : ∀ w ∈ lw_tbl, w.before args s = true) (hX : va_X b L xs s s.heap) (hbl : b < s.heap.size) (hbA : ¬ A b) (hA : ∀ q, s.heap.size ≤ q → A q) (hSt : ai_Sta D cs ad adV A s) (hi : i + 6 ≤ L) (hL : L ≤ 3072) (hk : lw_cs[k]? = some cse)
    (hl : lv_has ls 4 [(0, .ref b), (1, .ref (loC 0)), (2, .ref (loM 0)), (3, .int (nI i))]) (S : lw_W D cs A s loC loM hC hM H locs) (hC0 : hC.2.1[0]? = some (0, 9)) (hM0 : hM.2.1[0]? = some (0, 11))
    (r1 : ai_run 200 cse.2.2.1.2.1 0 (ai_ent (ai_mx cse.2.2.1.2.1) (.ref 0 :: cse.2.1.map (fun a => Value.int (lw_v (fun j => xs (i + j)) a)))) [] hC = some (.inl (some (.int v)), hC')) (r2 : ai_run 200 cse.2.2.2.2.1 0 (ai_ent (ai_mx cse.2.2.2.2.1) (.ref 0 :: cse.2.1.map (fun a => Value.int (lw_v (fun j => xs (i + j)) a)))) [] hM = some (.inl (some (.int v)), hM'))
    (hf1 : cells + (hC'.1.1 - hC.1.1) ≤ 601024 ∧ slots + (hC'.1.2 - hC.1.2) ≤ 7293034) (hf2 : cells + (hC'.1.1 - hC.1.1) + (hM'.1.1 - hM.1.1) ≤ 601024 ∧ slots + (hC'.1.2 - hC.1.2) + (hM'.1.2 - hM.1.2) ≤ 7293034)
    (kk : ∀ (loC' loM' : Nat → Nat) (H1 : Heap) (locs1 : List Loc), lw_W D cs A s loC' loM' hC' hM' H1 locs1 → loC' 0 = loC 0 → loM' 0 = loM 0 → W p l e room_1 s m args below meth c H1 locs1 (cells + (hC'.1.1 - hC.1.1) + (hM'.1.1 - hM.1.1)) (slots + (hC'.1.2 - hC.1.2) + (hM'.1.2 - hM.1.2)) Q (F0 m 1117 ls [])) : W p l e room_1 s m args below meth c H locs cells slots Q (F0 m cse.1 ls []) := by
  obtain ⟨⟨d1, d2, d3, d4, d5, d6, d7⟩, w1, w2, y1, y2⟩ := lw_ck1_spec (lw_ck_all hk)
  obtain ⟨⟨wl1, wi1, ws1, wn1⟩, m1, h1, p1⟩ := lw_ckW_spec w1
  obtain ⟨⟨wl2, wi2, ws2, wn2⟩, m2, h2, p2⟩ := lw_ckW_spec w2
  have l0 := lv_at hl 0 rfl
  have l3 := lv_at hl 3 rfl
  have c1 := lw_can (l := l) m1 r1
  have c2 := lw_can (l := l) m2 r2
  refine lv_aload_n hx hb (lw_dd d1) rfl (lv_at hl 1 rfl) ?_
  refine lw_args hx hb hX hbl hbA S.2.2.2.1 l0 l3 hi hL cse.2.1 _ _ d2 ?_
  have hrec1 := va_recv hSt.1 S.1.1 (show ai_cl[9]? = some (RX9, TX9, 15) from rfl) (ai_w_get hC0)
  refine lw_goon S hA (lw_runV (As := cse.2.1.map (fun a => Value.int (lw_v (fun j => xs (i + j)) a))) (rest := []) (b := loC 0) hx hb hml hown hts c1 wl1 wi1 ws1 wn1 h1 (by rw [p1]; simp) (by rw [y1]; exact hrec1) (ai_PcU (by rw [List.map_cons, lw_mapi]; rfl) S.1.1 S.2.1.1 S.2.2.2.1 S.2.2.2.2.1 hSt hA) (Nat.le_of_ble_eq_true rfl) (Nat.le_of_ble_eq_true rfl) hf1 rfl hl.1 rfl (lv_room (Nat.le_of_ble_eq_true rfl)) (lw_dd d3)) (fun loC' H1 locs1 S1 sm1 => ?_)
  have e1 : loC' 0 = loC 0 := (sm1 0 _ hC0 (by decide)).2
  refine lv_aload_n hx hb (lw_dd d4) rfl (lv_at hl 2 rfl) ?_
  refine lw_args hx hb hX hbl hbA S1.2.2.2.1 l0 l3 hi hL cse.2.1 _ _ d5 ?_
  have hrec2 := va_recv hSt.1 S1.1.2 (show ai_cl[11]? = some (RX11, TX11, 64) from rfl) (ai_w_get hM0)
  refine lw_goon S1.swap hA (lw_runV (As := cse.2.1.map (fun a => Value.int (lw_v (fun j => xs (i + j)) a))) (rest := [.int v]) (b := loM 0) hx hb hml hown hts c2 wl2 wi2 ws2 wn2 h2 (by rw [p2]; simp) (by rw [y2]; exact hrec2) (ai_PcU (by rw [List.map_cons, lw_mapi]; rfl) S1.1.2 S1.2.1.2 S1.2.2.2.1 S1.2.2.2.2.2 hSt hA) (Nat.le_of_ble_eq_true rfl) (Nat.le_of_ble_eq_true rfl) hf2 rfl hl.1 rfl (lv_room (Nat.le_of_ble_eq_true rfl)) (lw_dd d6)) (fun loM' H2 locs2 S2 sm2 => ?_)
  have e2 : loM' 0 = loM 0 := (sm2 0 _ hM0 (by decide)).2
  refine lv_icmp_eq (tgt := 1117) hx hb (lw_dd d7) (by omega) (fun _ => ?_) (fun hc => absurd rfl hc)
  exact kk loC' loM' H2 locs2 S2.swap e1 e2
end LLP
