/-! the law up to its loop -/
def lx_h0 : ai_Hp := ((0, 0), [], fun _ _ => none, fun _ _ => 0, fun _ _ => 0)
theorem lx_ok_h0 : ai_ok lx_h0 := fun k j v h => by cases h
theorem lx_ok_ob {ci nf : Nat} : ai_ok (ai_ob ci nf lx_h0) := fun k j v h => by
  by_cases hk : k = 0
  · subst hk; cases h
  · simp [ai_ob, lx_h0, hk] at h
theorem lx_fs {lo lo' : Nat → Nat} {ci nf : Nat} : ai_fs lo (ai_ob ci nf lx_h0) 0 ci = ai_fs lo' (ai_ob ci nf lx_h0) 0 ci := by
  unfold ai_fs
  congr 1
theorem lx_w {cs : ClassId × ClassId × ClassId} {q ci nf : Nat} : [(q, Sum.inr (ci, ai_fs (fun _ => 0) (ai_ob ci nf lx_h0) 0 ci))] = ai_w cs (fun _ => q) (ai_ob ci nf lx_h0) := by
  rw [lx_fs (lo' := fun _ => q)]
  rfl
theorem lx_words : ∀ w ∈ [Cond.classLink "CourtProgressLaw" 7 RX9, .classLink "CourtProgressLaw" 10 RX11, .instantiable RX9 15, .instantiable RX11 64, .initialized RX9, .initialized RX11, .methodLink "CourtProgressLaw" 9 (ai_y 104), .methodLink "CourtProgressLaw" 12 (ai_y 149), .instanceMethod (ai_y 104), .instanceMethod (ai_y 149)], w ∈ lw_tbl := by decide +kernel
theorem lx_y : ((ai_y 104).cls = RX9 ∧ (ai_y 104).name = "<init>" ∧ ((ai_y 104).cls ≠ "java/lang/invoke/MethodHandle" ∧ (ai_y 104).cls ≠ "java/lang/invoke/VarHandle") ∧ (parseMethodDescriptor (ai_y 104).desc).map (fun d => d.parameters.length) = some 0) ∧ (ai_y 149).cls = RX11 ∧ (ai_y 149).name = "<init>" ∧ ((ai_y 149).cls ≠ "java/lang/invoke/MethodHandle" ∧ (ai_y 149).cls ≠ "java/lang/invoke/VarHandle") ∧ (parseMethodDescriptor (ai_y 149).desc).map (fun d => d.parameters.length) = some 0 := by decide +kernel
section LXN
variable {p : Program} {l : Launch} {e : Env} {s : State} {m : MethodId} {args : Array Value} {below : List Frame} {meth : Method} {c : Code} {H : Heap} {locs : List Loc} {cells slots : Nat} {Q : State → Prop} {A : Nat → Prop} {ls : Array Slot} {rest : List Value} {D : va_G} {cs : ClassId × ClassId × ClassId} {ad adV : Nat → Nat} {ws : va_W}
theorem lx_new {ci idx pc : Nat} {C : String} {T : u_T} {N : Nat} (hci : ci < 12) (hC : ai_C ci = (C, T, N)) (hx : p.tables.exec = Jvm.exec) (hb : c.code = code) (hown : s.vm.findClass "CourtProgressLaw" = some m.cls) (hts : ∀ w ∈ lw_tbl, w.before args s = true) (hSt : ai_Sta D cs ad adV A s) (hP : va_P D ai_cl ws H) (hD : va_D A ws) (hS : va_S A s.heap H locs) (hA : ∀ q, s.heap.size ≤ q → A q) (w1 : Cond.classLink "CourtProgressLaw" idx C ∈ lw_tbl) (w2 : Cond.instantiable C N ∈ lw_tbl) (w3 : Cond.initialized C ∈ lw_tbl) (hc : cells + 1 ≤ room_1.cells) (hs : slots + N ≤ room_1.slots) (hd : decode code pc = .ok (.new idx, 3))
    (kk : ∀ (q : Nat) (H1 : Heap), va_P D ai_cl (ws ++ ai_w cs (fun _ => q) (ai_ob ci N lx_h0)) H1 → va_D A (ws ++ ai_w cs (fun _ => q) (ai_ob ci N lx_h0)) → va_S A s.heap H1 locs → W p l e room_1 s m args below meth c H1 locs (cells + 1) (slots + N) Q (F0 m (pc + 3) ls (.ref q :: rest))) : W p l e room_1 s m args below meth c H locs cells slots Q (F0 m pc ls rest) := by
  obtain ⟨CC, T1, N1, ty, g1, g2, g3, g4, g5, g6, g7⟩ := ai_cls hci
  cases hC.symm.trans g2
  subst g3
  refine va_new (D := D) (cl := ai_cl) (fs := ai_fs (fun _ => 0) (ai_ob ci (ai_nf ci) lx_h0) 0 ci) hx hb (fun w h => hts w (List.mem_filter.mp h).1) g4 ty g5 hown (hts _ w1) (hts _ w2) (hts _ w3) hSt.1 hP hD hS hA g1 (fun j hj => ?_) hc hs hd (fun q H1 g8 g9 g10 => ?_)
  · have hg := ai_fs_get (lo := fun _ => 0) (h := ai_ob ci (ai_nf ci) lx_h0) (k := 0) hj
    have : vp_V (ai_fs (fun _ => 0) (ai_ob ci (ai_nf ci) lx_h0) 0 ci) j = ai_fv (fun _ => 0) (ai_ob ci (ai_nf ci) lx_h0) 0 ci j := by
      simp [vp_V, hg]
    rw [this]
    have hf := g7 j hj
    cases ht : ai_ft ci j with
    | zero => rw [ai_fv_0 ht]; rw [ht] at hf; cases hty : ty j <;> rw [hty] at hf <;> simp [ai_fkd] at hf; simp [ai_ob, lx_h0, defaultValue]
    | succ t =>
      cases t with
      | zero => rw [ai_fv_1 ht]; rw [ht] at hf; cases hty : ty j <;> rw [hty] at hf <;> simp [ai_fkd] at hf; simp [ai_ob, lx_h0, defaultValue]
      | succ t => rw [ai_fv_2 (by rw [ht]; simp) (by rw [ht]; simp)]; rw [ht] at hf; cases hty : ty j <;> rw [hty] at hf <;> simp [ai_fkd] at hf <;> simp [ai_ob, lx_h0, defaultValue, va_rf]
  · rw [lx_w (cs := cs)] at g8 g9
    exact kk q H1 g8 g9 g10
set_option maxHeartbeats 1000000 in
theorem lx_init {mi idx b : Nat} {h h1 : ai_Hp} {lo : Nat → Nat} {g : JFrame} (hx : p.tables.exec = Jvm.exec) (hb : c.code = code) (hml : c.maxLocals = 4) (hown : s.vm.findClass "CourtProgressLaw" = some m.cls) (hts : ∀ w ∈ lw_tbl, w.before args s = true) (hSt : ai_Sta D cs ad adV A s) (hA : ∀ q, s.heap.size ≤ q → A q) (hmi : mi < 216) (h174 : mi ≠ 174) (hr : ai_run 200 mi 0 (ai_ent (ai_mx mi) [.ref 0]) [] h = some (.inl none, h1)) (hlo : lo 0 = b)
    (hnm : (ai_y mi).name = "<init>") (hy : (ai_y mi).cls ≠ "java/lang/invoke/MethodHandle" ∧ (ai_y mi).cls ≠ "java/lang/invoke/VarHandle") (hlen : (parseMethodDescriptor (ai_y mi).desc).map (fun d => d.parameters.length) = some 0) (w1 : Cond.methodLink "CourtProgressLaw" idx (ai_y mi) ∈ lw_tbl) (w2 : Cond.instanceMethod (ai_y mi) ∈ lw_tbl) (w3 : Cond.initialized (ai_y mi).cls ∈ lw_tbl)
    (hP : va_P D ai_cl (ai_w cs lo h) H) (hD : va_D A (ai_w cs lo h)) (hS : va_S A s.heap H locs) (hok : ai_ok h) (hf : cells + (h1.1.1 - h.1.1) ≤ room_1.cells ∧ slots + (h1.1.2 - h.1.2) ≤ room_1.slots) (hg : g.method = m) (hsize : g.locals.size = 4) (hstack : g.stack = .ref b :: rest) (hW : 2 * g.monitorRoom + (rest.map fun v => v.category).sum ≤ 8) (hdg : decode code g.pc = .ok (.invokespecial idx, 3)) :
    va_Run p l e room_1 s m args below meth c H locs cells slots (h1.1.1 - h.1.1) (h1.1.2 - h.1.2) g rest (ai_Qc D cs ad lo h (.inl none, h1) (va_A (ai_w cs lo h) H.size) [Value.ref b].toArray) (va_A (ai_w cs lo h) H.size) := by
  obtain ⟨bytes, maxL, ret, hcw, hmx, hrn, hMet⟩ := ai_run_con (l := l) hmi h174 hr
  have hM := ai_met (hMet D cs ad adV lo H.size)
  obtain rfl := hrn hnm
  have htb : ∀ w ∈ ai_tb, w.before args s = true := fun w h => hts w (List.mem_filter.mp h).1
  have hroom : (ai_rm 200 h (.inl none, h1)).frames + 1 ≤ room_1.frames ∧ 8 + (maxL + 11) + (ai_rm 200 h (.inl none, h1)).locals ≤ room_1.locals := by
    refine ⟨Nat.le_of_ble_eq_true rfl, ?_⟩
    have : 12435 ≤ room_1.locals := Nat.le_of_ble_eq_true rfl
    show 8 + (maxL + 11) + (60 * 200 + 400) ≤ room_1.locals
    omega
  exact va_runI (b := b) (As := []) (n := 0) ⟨hx, hb, hml, hown, htb⟩ hM ⟨callB_of 0 htb (ai_good1 hcw) rfl rfl rfl (hts _ w3) (hts _ w1) ⟨hy.1, hy.2, hlen⟩ hroom, hnm, hts _ w2⟩ ⟨ai_blind, ai_PcU (by rw [← hlo]; rfl) hP hD hS hok hSt hA⟩ hg rfl hsize hstack hW hdg hf
end LXN
set_option maxHeartbeats 4000000 in
theorem lx_start {p : Program} (l : Launch) {e : Env} {s : State} {m : MethodId} {below : List Frame} {meth : Method} {c : Code} {b L : Nat} {xs : Nat → Int32} (hL : L ≤ 3072) (C0 : lw_At p s m meth c b L xs) {Inv : Nat → ai_Hp → ai_Hp → Prop} (hI : lw_Inv Inv) {hC hM : ai_Hp} (rC : ai_run 200 104 0 (ai_ent (ai_mx 104) [.ref 0]) [] (ai_ob 9 15 lx_h0) = some (.inl none, hC)) (rM : ai_run 200 149 0 (ai_ent (ai_mx 149) [.ref 0]) [] (ai_ob 11 64 lx_h0) = some (.inl none, hM)) (h0 : Inv 0 hC hM) (hz : (1 ≤ hC.1.1 ∧ 15 ≤ hC.1.2) ∧ 1 ≤ hM.1.1 ∧ 64 ≤ hM.1.2) :
    W p l e room_1 s m #[Value.ref b] below meth c s.heap [] 0 0 (lw_Z below #[Value.ref b] s) (entryFrame m ([Value.ref b] : List Value).toArray 4) := by
  obtain ⟨hx, hb, hr, hml, hown, hts, hX, hbl, hlocks, hgv⟩ := id C0
  obtain ⟨D, cs, ad, adV, hSt⟩ := lx_Sta C0
  have hA : ∀ q : Nat, s.heap.size ≤ q → (fun q : Nat => s.heap.size ≤ q) q := fun _ h => h
  have hbd := hI.1 0 hC hM (Nat.zero_le _) h0
  have hmc : room_1.cells = 601024 := rfl
  have hms : room_1.slots = 7293034 := rfl
  have wd := lx_words
  simp only [List.forall_mem_cons] at wd
  obtain ⟨v1, v2, v3, v4, v5, v6, v7, v8, v9, v10, -⟩ := wd
  obtain ⟨⟨y1, y2, y3, y4⟩, y5, y6, y7, y8⟩ := lx_y
  have hl := lv_entry ([.ref b]) (n := 4) (Nat.le_of_ble_eq_true rfl)
  rw [lg_entry_eq]
  generalize (lg_sl ([.ref b]) ++ List.replicate (4 - (lg_sl ([.ref b])).length) Slot.unset).toArray = ls at hl ⊢
  have hl : lv_has ls 4 [(0, .ref b)] := hl
  have e0 : ∀ lo : Nat → Nat, ai_w cs lo lx_h0 = [] := fun _ => rfl
  have P0 : ∀ H : Heap, va_P D ai_cl [] H := fun H k q h => by cases h
  have D0 : va_D (fun q : Nat => s.heap.size ≤ q) [] := ⟨fun i j p q h => (by cases h), fun k q h => (by cases h)⟩
  have S0 : va_S (fun q : Nat => s.heap.size ≤ q) s.heap s.heap [] := ⟨Nat.le_refl _, fun _ _ _ => rfl, fun l h => by cases h⟩
  refine lx_new (ci := 9) (idx := 7) (N := 15) (by decide) rfl hx hb hown hts hSt (P0 _) D0 S0 hA v1 v3 v5 (Nat.le_of_ble_eq_true rfl) (Nat.le_of_ble_eq_true rfl) dl_0 (fun q H1 g1 g2 g3 => ?_)
  rw [List.nil_append] at g1 g2
  refine lv_dup hx hb dl_3 rfl ?_
  have W1 : lw_W D cs (fun q : Nat => s.heap.size ≤ q) s (fun _ => q) (fun _ => 0) (ai_ob 9 15 lx_h0) lx_h0 H1 [] := ⟨⟨g1, P0 _⟩, ⟨g2, D0⟩, fun i j p q _ h => (by cases h), g3, lx_ok_ob, lx_ok_h0⟩
  refine lw_goon W1 hA (lx_init (mi := 104) (idx := 9) (b := q) (lo := fun _ => q) hx hb hml hown hts hSt hA (by decide) (by decide) rC rfl y2 y3 y4 v7 v9 (by rw [y1]; exact v5) g1 g2 g3 lx_ok_ob ⟨?_, ?_⟩ rfl hl.1 rfl (lv_room (Nat.le_of_ble_eq_true rfl)) dl_4) (fun lo1 H2 locs2 S2 sm2 => ?_)
  · show 0 + 1 + (hC.1.1 - 1) ≤ room_1.cells
    omega
  · show 0 + 15 + (hC.1.2 - 15) ≤ room_1.slots
    omega
  have q1 : lo1 0 = q := (sm2 0 (0, 9) rfl (by decide)).2
  refine lv_astore_n (i := 1) (lv' := [(1, .ref q), (0, .ref b)]) hx hb dl_7 rfl hl (by decide) rfl (fun ls1 hl1 => ?_)
  rw [show (0 + 1 + (hC.1.1 - (ai_ob 9 15 lx_h0).1.1)) = hC.1.1 from (show 0 + 1 + (hC.1.1 - 1) = hC.1.1 by omega), show (0 + 15 + (hC.1.2 - (ai_ob 9 15 lx_h0).1.2)) = hC.1.2 from (show 0 + 15 + (hC.1.2 - 15) = hC.1.2 by omega)]
  refine lx_new (ci := 11) (idx := 10) (N := 64) (by decide) rfl hx hb hown hts hSt S2.1.1 S2.2.1.1 S2.2.2.2.1 hA v2 v4 v6 (by omega) (by omega) dl_8 (fun q' H3 g4 g5 g6 => ?_)
  refine lv_dup hx hb dl_11 rfl ?_
  have len := ai_w_len (cs := cs) (lo := lo1) (h := hC)
  have gP1 : va_P D ai_cl (ai_w cs lo1 hC) H3 := fun k x hk => g4 k x (by rw [List.getElem?_append_left (List.getElem?_eq_some_iff.mp hk).1]; exact hk)
  have gP2 : va_P D ai_cl (ai_w cs (fun _ => q') (ai_ob 11 64 lx_h0)) H3 := fun k x hk => g4 ((ai_w cs lo1 hC).length + k) x (by rw [List.getElem?_append_right (by omega), Nat.add_sub_cancel_left]; exact hk)
  have gD1 : va_D (fun q : Nat => s.heap.size ≤ q) (ai_w cs lo1 hC) := S2.2.1.1
  have gD2 : va_D (fun q : Nat => s.heap.size ≤ q) (ai_w cs (fun _ => q') (ai_ob 11 64 lx_h0)) := by
    refine ⟨fun i j x y hx hy hxy => ?_, fun k x hk => g5.2 ((ai_w cs lo1 hC).length + k) x (by rw [List.getElem?_append_right (by omega), Nat.add_sub_cancel_left]; exact hk)⟩
    have := g5.1 ((ai_w cs lo1 hC).length + i) ((ai_w cs lo1 hC).length + j) x y (by rw [List.getElem?_append_right (by omega), Nat.add_sub_cancel_left]; exact hx) (by rw [List.getElem?_append_right (by omega), Nat.add_sub_cancel_left]; exact hy) hxy
    omega
  have W3 : lw_W D cs (fun q : Nat => s.heap.size ≤ q) s (fun _ => q') lo1 (ai_ob 11 64 lx_h0) hC H3 locs2 := by
    refine ⟨⟨gP2, gP1⟩, ⟨gD2, gD1⟩, fun i j x y hx hy hxy => ?_, g6, lx_ok_ob, S2.2.2.2.2.1⟩
    have hj := (List.getElem?_eq_some_iff.mp hy).1
    have := g5.1 ((ai_w cs lo1 hC).length + i) j x y (by rw [List.getElem?_append_right (by omega), Nat.add_sub_cancel_left]; exact hx) (by rw [List.getElem?_append_left hj]; exact hy) hxy
    omega
  refine lw_goon W3 hA (lx_init (mi := 149) (idx := 12) (b := q') (lo := fun _ => q') hx hb hml hown hts hSt hA (by decide) (by decide) rM rfl y6 y7 y8 v8 v10 (by rw [y5]; exact v6) gP2 gD2 g6 lx_ok_ob ⟨?_, ?_⟩ rfl hl1.1 rfl (lv_room (Nat.le_of_ble_eq_true rfl)) dl_12) (fun lo2 H4 locs4 S4 sm4 => ?_)
  · show hC.1.1 + 1 + (hM.1.1 - 1) ≤ room_1.cells
    omega
  · show hC.1.2 + 64 + (hM.1.2 - 64) ≤ room_1.slots
    omega
  have q2 : lo2 0 = q' := (sm4 0 (0, 11) rfl (by decide)).2
  refine lv_astore_n (i := 2) (lv' := [(2, .ref q'), (1, .ref q), (0, .ref b)]) hx hb dl_15 rfl hl1 (by decide) rfl (fun ls2 hl2 => ?_)
  refine lv_iconst (v := nI 0) hx hb dl_16 (by decide) ?_
  refine lv_istore_n (i := 3) (lv' := [(3, .int (nI 0)), (2, .ref q'), (1, .ref q), (0, .ref b)]) hx hb dl_17 rfl hl2 (by decide) rfl (fun ls3 hl3 => ?_)
  rw [show (hC.1.1 + 1 + (hM.1.1 - (ai_ob 11 64 lx_h0).1.1)) = hC.1.1 + hM.1.1 from (show hC.1.1 + 1 + (hM.1.1 - 1) = hC.1.1 + hM.1.1 by omega), show (hC.1.2 + 64 + (hM.1.2 - (ai_ob 11 64 lx_h0).1.2)) = hC.1.2 + hM.1.2 from (show hC.1.2 + 64 + (hM.1.2 - 64) = hC.1.2 + hM.1.2 by omega)]
  refine lw_loop hL C0 hSt hI (L + 1) 0 lo1 lo2 hC hM H4 locs4 ls3 (by omega) (by omega) h0 S4.swap ?_
  rw [q1, q2]
  exact ⟨hl3.1, hl3.2.1, fun x hx => hl3.2.2 x (by
    simp only [List.mem_cons, List.not_mem_nil, or_false] at hx ⊢
    rcases hx with h | h | h | h
    · exact Or.inr (Or.inr (Or.inr h))
    · exact Or.inr (Or.inr (Or.inl h))
    · exact Or.inr (Or.inl h)
    · exact Or.inl h)⟩
