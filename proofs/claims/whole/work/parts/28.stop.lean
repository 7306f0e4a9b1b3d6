/-! the contract of 302: a Stop is made, no stack trace -/
def ai_T4 (v4 v5 v6 v7 : Value) (a b c d : Value) : List Value := [a, b, c, d, v4, v5, v6, v7]
def ai_PT (D : va_G) (cs : ClassId × ClassId × ClassId) (ad adV : Nat → Nat) (a : Nat) (vs : List Value) (sz : Nat) (av : List Value) : Array Value → State → Prop := va_Pc av (fun U => U.heap.size = sz ∧ va_P D ai_cl [(a, .inr (10, vs))] U.heap ∧ va_D (fun _ => True) [(a, .inr (10, vs))] ∧ ai_Sta D cs ad adV (va_A [(a, .inr (10, vs))] sz) U)
def ai_QT (D : va_G) (a : Nat) (vs : List Value) (sz : Nat) : Array Value → State → Outcome → State → Prop := fun _ st o t => (o = .returned none ∧ va_P D ai_cl [(a, .inr (10, vs))] t.heap) ∧ va_F (va_A [(a, .inr (10, vs))] sz) st t
theorem ai_PT_blind {D : va_G} {cs : ClassId × ClassId × ClassId} {ad adV : Nat → Nat} {a sz : Nat} {vs av : List Value} : FrameBlind (ai_PT D cs ad adV a vs sz av) := by
  intro x U g mk h
  obtain ⟨h1, h2, h3, h4, h5⟩ := h
  exact ⟨h1, h2, h3, h4, h5.same rfl rfl⟩
theorem ai_clsX10 : ai_Cls 10 RX10 TX10 8 tyX10 := ⟨rfl, rfl, rfl, fun w h => ai_tb_in (ai_inX10 w h), tyX10_ok, nmX10, by decide +kernel⟩
theorem ai_nref (n : String) (v : Value) (hv : v = .null ∨ ∃ t, v = .ref t) : narrow (.object n) v = v ∧ fits (.object n) v = true := by
  rcases hv with rfl | ⟨t, rfl⟩ <;> exact ⟨rfl, rfl⟩
theorem ai_naref (n : FieldType) (v : Value) (hv : v = .null ∨ ∃ t, v = .ref t) : narrow (.array n) v = v ∧ fits (.array n) v = true := by
  rcases hv with rfl | ⟨t, rfl⟩ <;> exact ⟨rfl, rfl⟩
theorem ai_Zv {C n d : String} {A : Nat → Prop} {U : State} {H : Heap} (h : va_Zq C n d A U H) : ∃ v, (v = .null ∨ ∃ t, v = Value.ref t) ∧ va_Z C n d v A U H := by
  rcases h with h | ⟨t, h⟩
  · exact ⟨_, Or.inl rfl, h⟩
  · exact ⟨_, Or.inr ⟨t, rfl⟩, h⟩
set_option maxHeartbeats 4000000 in
theorem ai_c_thr (l : Launch) (D : va_G) (cs : ClassId × ClassId × ClassId) (ad adV : Nat → Nat) (a sz : Nat) (v4 v5 v6 v7 : Value) : Met l ⟨"java/lang/Throwable", "<init>", "(Ljava/lang/String;Ljava/lang/Throwable;ZZ)V"⟩ (Cond.code ⟨"java/lang/Throwable", "<init>", "(Ljava/lang/String;Ljava/lang/Throwable;ZZ)V"⟩ prog_21_method_5_code 5 none :: ai_tb) (ai_r0 1) (ai_PT D cs ad adV a (ai_T4 v4 v5 v6 v7 .null .null .null .null) sz [.ref a, .null, .null, .int 0, .int 0]) (ai_QT D a (ai_T4 v4 v5 v6 v7 .null .null .null .null) sz) 0 0 (va_A [(a, .inr (10, ai_T4 v4 v5 v6 v7 .null .null .null .null))] sz) := by
  refine Met.ofW (cc := prog_21_method_5_code) (maxL := 5) (ret := none) (by decide) rfl ?_
  intro p e s m args below meth c s₁ B hml hv
  obtain ⟨rfl, rfl, hP, hD0, hK, hN, hSR, hE, hZ⟩ := hv
  have hx := B.exec
  have hb := B.bytes
  have hts := fun w (h : w ∈ ai_tb) => atoms_spec B.pre w (List.mem_cons_of_mem _ h)
  have hown : s.vm.findClass "java/lang/Throwable" = some m.cls := findClass_of_methodNamed B.named
  obtain ⟨g1, g2, g3, g4, g5, g6, g7⟩ := ai_clsX10
  have hD := hD0.self (sz := s.heap.size)
  generalize hAe : va_A [(a, .inr (10, ai_T4 v4 v5 v6 v7 .null .null .null .null))] s.heap.size = A at hD hE hZ ⊢
  have hA : ∀ q : Nat, s.heap.size ≤ q → A q := fun q h => by rw [← hAe]; exact Or.inr h
  have hS : va_S A s.heap s.heap [] := va_S.rf
  have hl := lv_entry ([.ref a, .null, .null, .int 0, .int 0]) (n := 5) (Nat.le_of_ble_eq_true rfl)
  rw [lg_entry_eq]
  generalize (lg_sl ([.ref a, .null, .null, .int 0, .int 0]) ++ List.replicate (5 - (lg_sl ([.ref a, .null, .null, .int 0, .int 0])).length) Slot.unset).toArray = ls at hl ⊢
  have hl : lv_has ls 5 [(0, .ref a), (1, .null), (2, .null), (3, .int 0), (4, .int 0)] := hl
  obtain ⟨us, hus, hZ1⟩ := ai_Zv hZ.2.1
  obtain ⟨ss, hss, hZ2⟩ := ai_Zv hZ.2.2.1
  refine lv_aload_n hx hb q_thr_0 rfl (lv_at hl 0 rfl) ?_
  refine W.objInit (g := F0 m 1 ls [.ref a]) hx hb hown (hts _ w_lobj) (hts _ (ai_tb_in (ai_was_in ai_oiw _ (by simp)))) (hts _ ai_objc) rfl (hl.1.trans hml.symm) rfl q_thr_1 (Nat.le_refl _) (Nat.le_of_ble_eq_true rfl) ?_
  show W _ _ _ _ _ _ _ _ _ _ _ _ _ _ _ (F0 m 4 ls [])
  refine lv_aload_n hx hb q_thr_4 rfl (lv_at hl 0 rfl) ?_
  refine lv_aload_n hx hb q_thr_5 rfl (lv_at hl 0 rfl) ?_
  refine va_put (D := D) (cl := ai_cl) (ci := 10) (v := .ref a) (ty := tyX10 0) (ref := "java/lang/Throwable") (C := RX10) (T := TX10) (N := 8) hx hb hts g4 tyX10 g5 g6 hown hK hP hD hS 0 rfl g1 0 (by decide) (hts _ w_fcau) (fun _ h => h) rfl (g5 0 (by decide)) rfl rfl (by simp [ai_T4]) q_thr_6 (fun H locs hP hD hS => ?_)
  have hP : va_P D ai_cl [(a, .inr (10, ai_T4 v4 v5 v6 v7 (.ref a) .null .null .null))] H := hP
  have hD : va_D A [(a, .inr (10, ai_T4 v4 v5 v6 v7 (.ref a) .null .null .null))] := hD
  refine lv_aload_n hx hb q_thr_9 rfl (lv_at hl 0 rfl) ?_
  refine va_gets hx hb hZ1 hS hown (hts _ w_fus) (fun _ h => h) q_thr_10 ?_
  refine va_put (D := D) (cl := ai_cl) (ci := 10) (v := us) (ty := tyX10 1) (ref := "java/lang/Throwable") (C := RX10) (T := TX10) (N := 8) hx hb hts g4 tyX10 g5 g6 hown hK hP hD hS 0 rfl g1 1 (by decide) (hts _ w_fst) (fun _ h => h) rfl (g5 1 (by decide)) (ai_naref _ us hus).1 (ai_naref _ us hus).2 (by simp [ai_T4]) q_thr_13 (fun H locs hP hD hS => ?_)
  have hP : va_P D ai_cl [(a, .inr (10, ai_T4 v4 v5 v6 v7 (.ref a) us .null .null))] H := hP
  have hD : va_D A [(a, .inr (10, ai_T4 v4 v5 v6 v7 (.ref a) us .null .null))] := hD
  refine lv_aload_n hx hb q_thr_16 rfl (lv_at hl 0 rfl) ?_
  refine va_gets hx hb hZ2 hS hown (hts _ w_fss) (fun _ h => h) q_thr_17 ?_
  refine va_put (D := D) (cl := ai_cl) (ci := 10) (v := ss) (ty := tyX10 2) (ref := "java/lang/Throwable") (C := RX10) (T := TX10) (N := 8) hx hb hts g4 tyX10 g5 g6 hown hK hP hD hS 0 rfl g1 2 (by decide) (hts _ w_fsu) (fun _ h => h) rfl (g5 2 (by decide)) (ai_nref _ ss hss).1 (ai_nref _ ss hss).2 (by simp [ai_T4]) q_thr_20 (fun H locs hP hD hS => ?_)
  have hP : va_P D ai_cl [(a, .inr (10, ai_T4 v4 v5 v6 v7 (.ref a) us ss .null))] H := hP
  have hD : va_D A [(a, .inr (10, ai_T4 v4 v5 v6 v7 (.ref a) us ss .null))] := hD
  refine lv_iload hx hb q_thr_23 (lv_at hl 4 rfl) ?_
  refine lv_if_eq (tgt := 36) hx hb q_thr_25 (by decide) (fun _ => ?_) (fun c => absurd rfl c)
  refine lv_aload_n hx hb q_thr_36 rfl (lv_at hl 0 rfl) ?_
  refine lv_null hx hb q_thr_37 ?_
  refine va_put (D := D) (cl := ai_cl) (ci := 10) (v := .null) (ty := tyX10 1) (ref := "java/lang/Throwable") (C := RX10) (T := TX10) (N := 8) hx hb hts g4 tyX10 g5 g6 hown hK hP hD hS 0 rfl g1 1 (by decide) (hts _ w_fst) (fun _ h => h) rfl (g5 1 (by decide)) rfl rfl (by simp [ai_T4]) q_thr_38 (fun H locs hP hD hS => ?_)
  have hP : va_P D ai_cl [(a, .inr (10, ai_T4 v4 v5 v6 v7 (.ref a) .null ss .null))] H := hP
  have hD : va_D A [(a, .inr (10, ai_T4 v4 v5 v6 v7 (.ref a) .null ss .null))] := hD
  refine lv_aload_n hx hb q_thr_41 rfl (lv_at hl 0 rfl) ?_
  refine ai_aload_n hx hb rfl q_thr_42 (lv_at hl 1 rfl) ?_
  refine va_put (D := D) (cl := ai_cl) (ci := 10) (v := .null) (ty := tyX10 3) (ref := "java/lang/Throwable") (C := RX10) (T := TX10) (N := 8) hx hb hts g4 tyX10 g5 g6 hown hK hP hD hS 0 rfl g1 3 (by decide) (hts _ w_fdm) (fun _ h => h) rfl (g5 3 (by decide)) rfl rfl (by simp [ai_T4]) q_thr_43 (fun H locs hP hD hS => ?_)
  have hP : va_P D ai_cl [(a, .inr (10, ai_T4 v4 v5 v6 v7 (.ref a) .null ss .null))] H := hP
  have hD : va_D A [(a, .inr (10, ai_T4 v4 v5 v6 v7 (.ref a) .null ss .null))] := hD
  refine lv_aload_n hx hb q_thr_46 rfl (lv_at hl 0 rfl) ?_
  refine ai_aload_n hx hb rfl q_thr_47 (lv_at hl 2 rfl) ?_
  refine va_put (D := D) (cl := ai_cl) (ci := 10) (v := .null) (ty := tyX10 0) (ref := "java/lang/Throwable") (C := RX10) (T := TX10) (N := 8) hx hb hts g4 tyX10 g5 g6 hown hK hP hD hS 0 rfl g1 0 (by decide) (hts _ w_fcau) (fun _ h => h) rfl (g5 0 (by decide)) rfl rfl (by simp [ai_T4]) q_thr_48 (fun H locs hP hD hS => ?_)
  have hP : va_P D ai_cl [(a, .inr (10, ai_T4 v4 v5 v6 v7 .null .null ss .null))] H := hP
  have hD : va_D A [(a, .inr (10, ai_T4 v4 v5 v6 v7 .null .null ss .null))] := hD
  refine lv_iload_n hx hb q_thr_51 rfl (lv_at hl 3 rfl) ?_
  refine lv_if_ne (tgt := 60) hx hb q_thr_52 (by decide) (fun c => absurd rfl c) (fun _ => ?_)
  refine lv_aload_n hx hb q_thr_55 rfl (lv_at hl 0 rfl) ?_
  refine lv_null hx hb q_thr_56 ?_
  refine va_put (D := D) (cl := ai_cl) (ci := 10) (v := .null) (ty := tyX10 2) (ref := "java/lang/Throwable") (C := RX10) (T := TX10) (N := 8) hx hb hts g4 tyX10 g5 g6 hown hK hP hD hS 0 rfl g1 2 (by decide) (hts _ w_fsu) (fun _ h => h) rfl (g5 2 (by decide)) rfl rfl (by simp [ai_T4]) q_thr_57 (fun H locs hP hD hS => ?_)
  have hP : va_P D ai_cl [(a, .inr (10, ai_T4 v4 v5 v6 v7 .null .null .null .null))] H := hP
  exact W.vret hx hb B.returns (fun t ht hW => ⟨⟨rfl, by rw [ht]; exact hP⟩, by rw [hAe]; exact hS.F ht⟩) hS.2.2 q_thr_60 B.notSynchronized
section AGT
variable {p : Program} {l : Launch} {e : Env} {R : Room} {s : State} {m : MethodId} {args : Array Value} {below : List Frame} {meth : Method} {c : Code} {H : Heap} {locs : List Loc} {cells slots : Nat} {Q : State → Prop}
theorem ai_goT {D : va_G} {a : Nat} {vs : List Value} {A : Nat → Prop} {pc : Nat} {ls : Array Slot} {st0 rest : List Value} {arr : Array Value} (hr : va_Run p l e R s m args below meth c H locs cells slots 0 0 (F0 m pc ls st0) rest (ai_QT D a vs H.size arr) (va_A [(a, .inr (10, vs))] H.size)) (hS : va_S A s.heap H locs) (hsub : ∀ q, va_A [(a, .inr (10, vs))] H.size q → A q)
    (kk : ∀ (H1 : Heap) (locs1 : List Loc), va_P D ai_cl [(a, .inr (10, vs))] H1 → (∀ q : Nat, q < H.size → ¬ va_A [(a, .inr (10, vs))] H.size q → H1[q]? = H[q]?) → va_S A s.heap H1 locs1 → W p l e R s m args below meth c H1 locs1 cells slots Q (F0 m (pc + 3) ls rest)) : W p l e R s m args below meth c H locs cells slots Q (F0 m pc ls st0) := by
  intro T hT X
  obtain ⟨v1, st₀, t, T1, L, h0, X1, hL, e1, e2, ⟨⟨hv, hp1⟩, hz, hk⟩, st⟩ := hr T hT X
  cases hv
  rw [h0] at hz hk
  obtain ⟨t2, a1, b1⟩ := kk T1.heap (locs ++ L) (by rw [e1]; exact hp1) (fun q h1 h2 => by rw [e1]; exact hk q h1 h2)
    ⟨Nat.le_trans hS.1 (by rw [e1]; exact hz), fun q h1 h2 => by rw [e1, hk q (Nat.lt_of_lt_of_le h1 hS.1) (fun z => h2 (hsub q z))]; exact hS.2.1 q h1 h2, fun q hq => by
      rcases List.mem_append.mp hq with h | h
      · exact hS.2.2 q h
      · exact hsub _ (hL q h)⟩ T1 rfl X1
  exact ⟨t2, st t2 a1, b1⟩
end AGT
theorem ai_PTU {D : va_G} {cs : ClassId × ClassId × ClassId} {ad adV : Nat → Nat} {a : Nat} {vs av : List Value} {A : Nat → Prop} {s : State} {H : Heap} {locs : List Loc} (hP : va_P D ai_cl [(a, .inr (10, vs))] H) (hS : va_S A s.heap H locs) (hsub : ∀ q, va_A [(a, .inr (10, vs))] H.size q → A q) (hSt : ai_Sta D cs ad adV A s) : ∀ U : State, U.heap = H → s.WarmedH U.vm → ai_PT D cs ad adV a vs H.size av av.toArray U := by
  intro U hU hW
  refine ⟨rfl, by rw [hU], by rw [hU]; exact hP, ⟨fun i j p q h1 h2 _ => ?_, fun _ _ _ => trivial⟩, hSt.go hS hU hW hsub⟩
  have h3 : i < 1 := (List.getElem?_eq_some_iff.mp h1).1
  have h4 : j < 1 := (List.getElem?_eq_some_iff.mp h2).1
  omega
set_option maxHeartbeats 4000000 in
theorem ai_c_exc (l : Launch) (D : va_G) (cs : ClassId × ClassId × ClassId) (ad adV : Nat → Nat) (a sz : Nat) (v4 v5 v6 v7 : Value) : Met l ⟨"java/lang/Exception", "<init>", "(Ljava/lang/String;Ljava/lang/Throwable;ZZ)V"⟩ (Cond.code ⟨"java/lang/Exception", "<init>", "(Ljava/lang/String;Ljava/lang/Throwable;ZZ)V"⟩ prog_14_method_5_code 5 none :: ai_tb) (ai_r0 2) (ai_PT D cs ad adV a (ai_T4 v4 v5 v6 v7 .null .null .null .null) sz [.ref a, .null, .null, .int 0, .int 0]) (ai_QT D a (ai_T4 v4 v5 v6 v7 .null .null .null .null) sz) 0 0 (va_A [(a, .inr (10, ai_T4 v4 v5 v6 v7 .null .null .null .null))] sz) := by
  refine Met.ofW (cc := prog_14_method_5_code) (maxL := 5) (ret := none) (by decide) rfl ?_
  intro p e s m args below meth c s₁ B hml hv
  obtain ⟨rfl, rfl, hP, hD0, hSt⟩ := hv
  have hx := B.exec
  have hb := B.bytes
  have hts := fun w (h : w ∈ ai_tb) => atoms_spec B.pre w (List.mem_cons_of_mem _ h)
  have hown : s.vm.findClass "java/lang/Exception" = some m.cls := findClass_of_methodNamed B.named
  have hS : va_S (va_A [(a, .inr (10, ai_T4 v4 v5 v6 v7 .null .null .null .null))] s.heap.size) s.heap s.heap [] := va_S.rf
  have hl := lv_entry ([.ref a, .null, .null, .int 0, .int 0]) (n := 5) (Nat.le_of_ble_eq_true rfl)
  rw [lg_entry_eq]
  generalize (lg_sl ([.ref a, .null, .null, .int 0, .int 0]) ++ List.replicate (5 - (lg_sl ([.ref a, .null, .null, .int 0, .int 0])).length) Slot.unset).toArray = ls at hl ⊢
  have hl : lv_has ls 5 [(0, .ref a), (1, .null), (2, .null), (3, .int 0), (4, .int 0)] := hl
  refine lv_aload_n hx hb q_exc_0 rfl (lv_at hl 0 rfl) ?_
  refine ai_aload_n hx hb rfl q_exc_1 (lv_at hl 1 rfl) ?_
  refine ai_aload_n hx hb rfl q_exc_2 (lv_at hl 2 rfl) ?_
  refine lv_iload_n hx hb q_exc_3 rfl (lv_at hl 3 rfl) ?_
  refine lv_iload hx hb q_exc_4 (lv_at hl 4 rfl) ?_
  refine ai_goT (va_runI (b := a) (As := [.null, .null, .int 0, .int 0]) (rest := []) (n := 4) ⟨hx, hb, hml, hown, hts⟩ (ai_c_thr l D cs ad adV a s.heap.size v4 v5 v6 v7) ⟨callB_of 4 hts (ai_good1 c_thr) rfl rfl rfl (hts _ w_iT) (hts _ w_lthr) (by decide +kernel) ⟨Nat.le_of_ble_eq_true rfl, Nat.le_of_ble_eq_true rfl⟩, rfl, hts _ w_ithr⟩ ⟨ai_PT_blind, ai_PTU hP hS (fun _ h => h) hSt⟩ rfl rfl hl.1 rfl (lv_room (Nat.le_of_ble_eq_true rfl)) q_exc_6 ⟨Nat.le_refl _, Nat.le_refl _⟩) hS (fun _ h => h) (fun H1 locs1 hP hk hS => ?_)
  exact W.vret hx hb B.returns (fun t ht hW => ⟨⟨rfl, by rw [ht]; exact hP⟩, hS.F ht⟩) hS.2.2 q_exc_9 B.notSynchronized
set_option maxHeartbeats 4000000 in
theorem ai_c_rte (l : Launch) (D : va_G) (cs : ClassId × ClassId × ClassId) (ad adV : Nat → Nat) (a sz : Nat) (v4 v5 v6 v7 : Value) : Met l ⟨"java/lang/RuntimeException", "<init>", "(Ljava/lang/String;Ljava/lang/Throwable;ZZ)V"⟩ (Cond.code ⟨"java/lang/RuntimeException", "<init>", "(Ljava/lang/String;Ljava/lang/Throwable;ZZ)V"⟩ prog_17_method_5_code 5 none :: ai_tb) (ai_r0 3) (ai_PT D cs ad adV a (ai_T4 v4 v5 v6 v7 .null .null .null .null) sz [.ref a, .null, .null, .int 0, .int 0]) (ai_QT D a (ai_T4 v4 v5 v6 v7 .null .null .null .null) sz) 0 0 (va_A [(a, .inr (10, ai_T4 v4 v5 v6 v7 .null .null .null .null))] sz) := by
  refine Met.ofW (cc := prog_17_method_5_code) (maxL := 5) (ret := none) (by decide) rfl ?_
  intro p e s m args below meth c s₁ B hml hv
  obtain ⟨rfl, rfl, hP, hD0, hSt⟩ := hv
  have hx := B.exec
  have hb := B.bytes
  have hts := fun w (h : w ∈ ai_tb) => atoms_spec B.pre w (List.mem_cons_of_mem _ h)
  have hown : s.vm.findClass "java/lang/RuntimeException" = some m.cls := findClass_of_methodNamed B.named
  have hS : va_S (va_A [(a, .inr (10, ai_T4 v4 v5 v6 v7 .null .null .null .null))] s.heap.size) s.heap s.heap [] := va_S.rf
  have hl := lv_entry ([.ref a, .null, .null, .int 0, .int 0]) (n := 5) (Nat.le_of_ble_eq_true rfl)
  rw [lg_entry_eq]
  generalize (lg_sl ([.ref a, .null, .null, .int 0, .int 0]) ++ List.replicate (5 - (lg_sl ([.ref a, .null, .null, .int 0, .int 0])).length) Slot.unset).toArray = ls at hl ⊢
  have hl : lv_has ls 5 [(0, .ref a), (1, .null), (2, .null), (3, .int 0), (4, .int 0)] := hl
  refine lv_aload_n hx hb q_rte_0 rfl (lv_at hl 0 rfl) ?_
  refine ai_aload_n hx hb rfl q_rte_1 (lv_at hl 1 rfl) ?_
  refine ai_aload_n hx hb rfl q_rte_2 (lv_at hl 2 rfl) ?_
  refine lv_iload_n hx hb q_rte_3 rfl (lv_at hl 3 rfl) ?_
  refine lv_iload hx hb q_rte_4 (lv_at hl 4 rfl) ?_
  refine ai_goT (va_runI (b := a) (As := [.null, .null, .int 0, .int 0]) (rest := []) (n := 4) ⟨hx, hb, hml, hown, hts⟩ (ai_c_exc l D cs ad adV a s.heap.size v4 v5 v6 v7) ⟨callB_of 4 hts (ai_good1 c_exc) rfl rfl rfl (hts _ w_iE) (hts _ w_lexc) (by decide +kernel) ⟨Nat.le_of_ble_eq_true rfl, Nat.le_of_ble_eq_true rfl⟩, rfl, hts _ w_iexc⟩ ⟨ai_PT_blind, ai_PTU hP hS (fun _ h => h) hSt⟩ rfl rfl hl.1 rfl (lv_room (Nat.le_of_ble_eq_true rfl)) q_rte_6 ⟨Nat.le_refl _, Nat.le_refl _⟩) hS (fun _ h => h) (fun H1 locs1 hP hk hS => ?_)
  exact W.vret hx hb B.returns (fun t ht hW => ⟨⟨rfl, by rw [ht]; exact hP⟩, hS.F ht⟩) hS.2.2 q_rte_9 B.notSynchronized
theorem ai_fs10 {lo : Nat → Nat} {h : ai_Hp} {a : Nat} (hr : ((List.range 8).all fun j => (h.2.2.1 a j).isNone) = true) : ai_fs lo h a 10 = ai_T4 .null (.int (h.2.2.2.1 a 5)) (.int (h.2.2.2.1 a 6)) (.int (h.2.2.2.1 a 7)) .null .null .null .null := by
  have hn : ∀ j, j < 8 → h.2.2.1 a j = none := fun j hj => by
    have := List.all_eq_true.mp hr j (List.mem_range.mpr hj)
    simpa using this
  have e2 : ∀ j, j < 5 → ai_fv lo h a 10 j = .null := by
    intro j hj
    have key : ∀ j, j < 5 → ai_ft 10 j = 2 := by decide +kernel
    rw [ai_fv_2 (by rw [key j hj]; decide) (by rw [key j hj]; decide), hn j (by omega)]
    rfl
  have e0 : ∀ j, 5 ≤ j → j < 8 → ai_fv lo h a 10 j = .int (h.2.2.2.1 a j) := by
    intro j h1 h2
    have key : ∀ j, j < 8 → 5 ≤ j → ai_ft 10 j = 0 := by decide +kernel
    exact ai_fv_0 (key j h2 h1)
  show (List.range 8).map (ai_fv lo h a 10) = _
  show [ai_fv lo h a 10 0, ai_fv lo h a 10 1, ai_fv lo h a 10 2, ai_fv lo h a 10 3, ai_fv lo h a 10 4, ai_fv lo h a 10 5, ai_fv lo h a 10 6, ai_fv lo h a 10 7] = _
  rw [e2 0 (by decide), e2 1 (by decide), e2 2 (by decide), e2 3 (by decide), e2 4 (by decide), e0 5 (by decide) (by decide), e0 6 (by decide) (by decide), e0 7 (by decide) (by decide)]
  rfl
set_option maxHeartbeats 4000000 in
theorem ai_con302 {l : Launch} {e1 a : Nat} {h : ai_Hp} (ho : ai_obj h a 10 = true) (hr : ((List.range 8).all fun j => (h.2.2.1 a j).isNone) = true) : ai_Con l e1 302 [.ref a] h (.inl none, h) := by
  refine ⟨cX10_init, 1, none, c_stp, by decide, fun _ => rfl, fun D cs ad adV lo sz => ?_⟩
  rw [Nat.sub_self, Nat.sub_self]
  refine ai_conM ?_
  refine Met.ofW (cc := cX10_init) (maxL := 1) (ret := none) (by decide +kernel) rfl ?_
  intro p e s m args below meth c s₁ B hml hv
  obtain ⟨rfl, rfl, hP, hD0, hok, hSt⟩ := hv
  have hx := B.exec
  have hb := B.bytes
  have hts := fun w (h : w ∈ ai_tb) => atoms_spec B.pre w (List.mem_cons_of_mem _ h)
  have hown : s.vm.findClass "CourtProgressModel$Stop" = some m.cls := findClass_of_methodNamed B.named
  have hS : va_S (va_A (ai_w cs lo h) s.heap.size) s.heap s.heap [] := va_S.rf
  have hD := hD0.self (sz := s.heap.size)
  have hget := ai_w_get (cs := cs) (lo := lo) (ai_obj_spec ho)
  have hwe : ai_we cs lo h a (0, 10) = .inr (10, ai_T4 .null (.int (h.2.2.2.1 a 5)) (.int (h.2.2.2.1 a 6)) (.int (h.2.2.2.1 a 7)) .null .null .null .null) := by
    show Sum.inr (10, ai_fs lo h a 10) = _
    rw [ai_fs10 hr]
  rw [hwe] at hget
  generalize hT4 : ai_T4 .null (.int (h.2.2.2.1 a 5)) (.int (h.2.2.2.1 a 6)) (.int (h.2.2.2.1 a 7)) .null .null .null .null = t4 at hget
  have hP1 : va_P D ai_cl [(lo a, .inr (10, t4))] s.heap := by
    intro k q hk
    have : k < 1 := (List.getElem?_eq_some_iff.mp hk).1
    obtain rfl : k = 0 := by omega
    cases hk
    exact hP a _ hget
  have hsub : ∀ q, va_A [(lo a, .inr (10, t4))] s.heap.size q → va_A (ai_w cs lo h) s.heap.size q := by
    intro q hq
    rcases hq with ⟨k, en, hk⟩ | hq
    · have : k < 1 := (List.getElem?_eq_some_iff.mp hk).1
      obtain rfl : k = 0 := by omega
      cases hk
      exact Or.inl ⟨a, _, hget⟩
    · exact Or.inr hq
  have hl := lv_entry ([.ref (lo a)]) (n := 1) (Nat.le_of_ble_eq_true rfl)
  show W _ _ _ _ _ _ #[Value.ref (lo a)] _ _ _ _ _ _ _ _ (entryFrame m [Value.ref (lo a)].toArray 1)
  rw [lg_entry_eq]
  generalize (lg_sl ([.ref (lo a)]) ++ List.replicate (1 - (lg_sl ([.ref (lo a)])).length) Slot.unset).toArray = ls at hl ⊢
  have hl : lv_has ls 1 [(0, .ref (lo a))] := hl
  refine lv_aload_n hx hb q_stp_0 rfl (lv_at hl 0 rfl) ?_
  refine lv_null hx hb q_stp_1 ?_
  refine lv_null hx hb q_stp_2 ?_
  refine lv_iconst (v := 0) hx hb q_stp_3 (by decide) ?_
  refine lv_iconst (v := 0) hx hb q_stp_4 (by decide) ?_
  have hM := ai_c_rte l D cs ad adV (lo a) s.heap.size .null (.int (h.2.2.2.1 a 5)) (.int (h.2.2.2.1 a 6)) (.int (h.2.2.2.1 a 7))
  rw [hT4] at hM
  refine ai_goT (va_runI (b := lo a) (As := [.null, .null, .int 0, .int 0]) (rest := []) (n := 4) ⟨hx, hb, hml, hown, hts⟩ hM ⟨callB_of 4 hts (ai_good1 c_rte) rfl rfl rfl (hts _ w_iR) (hts _ w_lrte) (by decide +kernel) (by show 3 + 1 ≤ e1 + 10 ∧ 8 + (5 + 11) + 60 * 3 ≤ 60 * e1 + 400; omega), rfl, hts _ w_irte⟩ ⟨ai_PT_blind, ai_PTU hP1 hS hsub hSt⟩ rfl rfl hl.1 rfl (lv_room (Nat.le_of_ble_eq_true rfl)) q_stp_5 ⟨Nat.zero_le _, Nat.zero_le _⟩) hS hsub (fun H1 locs1 hP2 hkp hS2 => ?_)
  have hP3 : va_P D ai_cl (ai_w cs lo h) H1 := by
    intro k q hk
    by_cases hka : k = a
    · subst hka
      cases hget.symm.trans hk
      exact hP2 0 _ rfl
    · have hlt := (hP k q hk).lt
      refine (hP k q hk).kept (hkp q.1 hlt (fun hq => ?_))
      rcases hq with ⟨k2, en, hk2⟩ | hq
      · have : k2 < 1 := (List.getElem?_eq_some_iff.mp hk2).1
        obtain rfl : k2 = 0 := by omega
        have he : q.1 = lo a := by
          simp only [List.getElem?_cons_zero, Option.some.injEq, Prod.mk.injEq] at hk2
          exact hk2.1.symm
        exact hka (hD.1 k a q _ hk hget he)
      · omega
  exact W.vret hx hb B.returns (fun t ht hW => ⟨⟨lo, rfl, by rw [ht]; exact hP3, hD, hok, ai_sm.rf⟩, hS2.F ht⟩) hS2.2.2 q_stp_8 B.notSynchronized
