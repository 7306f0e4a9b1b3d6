/-! the hand-made contracts of 300 and 301 -/
theorem ai_conM {l : Launch} {y : MethodName} {ws : List Cond} {rm : Room} {P : Array Value → State → Prop} {Qc : Array Value → State → Outcome → State → Prop} {mc ms : Nat} {A : Nat → Prop} (h : Met l y ws rm P Qc mc ms A) : MetFree l y (headSpec ws rm) P (fun _ _ _ _ _ => True) (fun a st o t => Qc a st o t ∧ ai_Qf st t mc ms A) := by
  intro p e ha hc hk s m args below hf happ hP hK
  obtain ⟨n, o, g1, g2, g3, g4, Ls, ⟨_, g5, g6⟩, g7⟩ := h p e ha hc hk s m args below hf happ hP hK
  exact ⟨n, o, g1, g2, g3, g4, Ls, g5, g6, g7⟩
theorem ai_strs_ok : ((List.range 20).all fun j => match ai_stk[j]? with
    | some r => decide (ai_strs[j]? = some (ai_byt.getD r.2.2.1 [])) && (decide (ai_lns.getD r.2.2.1 0 = (ai_byt.getD r.2.2.1 []).length) && decide (r.2.2.1 < 10))
    | none => false) = true := by decide +kernel
theorem ai_strs_at {j : Nat} {s : List Int32} (h : ai_strs[j]? = some s) : ∃ i, i < 10 ∧ (∀ ad, ai_skk ad j = ad i) ∧ ai_byt.getD i [] = s ∧ ai_lns.getD i 0 = s.length := by
  have hj : j < 20 := (List.getElem?_eq_some_iff.mp h).1
  have hk := List.all_eq_true.mp ai_strs_ok j (List.mem_range.mpr hj)
  cases hr : ai_stk[j]? with
  | none => rw [hr] at hk; cases hk
  | some r =>
    rw [hr] at hk
    simp only [Bool.and_eq_true, decide_eq_true_eq] at hk
    obtain ⟨k1, k2, k3⟩ := hk
    rw [h] at k1
    have k1 := Option.some.inj k1
    refine ⟨r.2.2.1, k3, fun ad => ?_, k1.symm, by rw [k1]; exact k2⟩
    unfold ai_skk
    rw [hr]
    rfl
theorem ai_shr0 : ∀ i, i < 10 → Int32.ofNat (ai_lns.getD i 0) >>> ((0 : Int32) &&& 31) = Int32.ofNat (ai_lns.getD i 0) := by decide +kernel
theorem ai_and255 : ∀ i, i < 10 → ∀ k, k < 10 → (ai_byt.getD i []).getD k 0 &&& 255 = (ai_byt.getD i []).getD k 0 := by decide +kernel
theorem ai_narc : ∀ i, i < 10 → ∀ k, k < 10 → narrow .char (.int ((ai_byt.getD i []).getD k 0)) = .int ((ai_byt.getD i []).getD k 0) := by decide +kernel
theorem ai_lnsm : ∀ i, i < 10 → ai_lns.getD i 0 < 10 := by decide +kernel
set_option maxHeartbeats 4000000 in
theorem ai_con300 {l : Launch} {e1 j : Nat} {s0 : List Int32} {h : ai_Hp} (hs : ai_strs[j]? = some s0) : ai_Con l e1 300 [.retAddr (j + 1)] h (.inl (some (.int (Int32.ofNat s0.length))), h) := by
  obtain ⟨i, hi, hsk, hby, hln⟩ := ai_strs_at hs
  refine ⟨cJ0_length_8abf5, 1, some .int, c_len, by decide, fun h => absurd h (by decide +kernel), fun D cs ad adV lo sz => ?_⟩
  rw [Nat.sub_self, Nat.sub_self]
  refine ai_conM ?_
  refine Met.ofW (cc := cJ0_length_8abf5) (maxL := 1) (ret := some .int) (by decide +kernel) rfl ?_
  intro p e s m args below meth c s₁ B hml hv
  obtain ⟨rfl, rfl, hP, hD, hok, hK, hN, hSR, hE, hZ⟩ := hv
  have hx := B.exec
  have hb := B.bytes
  have hts := fun w (h : w ∈ ai_tb) => atoms_spec B.pre w (List.mem_cons_of_mem _ h)
  have hown : s.vm.findClass "java/lang/String" = some m.cls := findClass_of_methodNamed B.named
  have hS : va_S (va_A (ai_w cs lo h) s.heap.size) s.heap s.heap [] := va_S.rf
  have hargs : ([Value.retAddr (j + 1)].map (ai_tv lo (ai_skk ad))) = [.ref (ad i)] := by rw [← hsk ad]; rfl
  rw [hargs] at hts ⊢
  have hl := lv_entry ([.ref (ad i)]) (n := 1) (Nat.le_of_ble_eq_true rfl)
  rw [lg_entry_eq]
  generalize (lg_sl ([.ref (ad i)]) ++ List.replicate (1 - (lg_sl ([.ref (ad i)])).length) Slot.unset).toArray = ls at hl ⊢
  have hl : lv_has ls 1 [(0, .ref (ad i))] := hl
  refine lv_aload_n hx hb q_len_0 rfl (lv_at hl 0 rfl) ?_
  refine vk_getf hx hb (hE.1 i hi).2.2.1 hS hown (hts _ w_fval) (fun _ h => h) q_len_1 ?_
  refine va_tlen hx hb (hE.1 i hi).2.2.2 hS rfl q_len_4 ?_
  refine lv_aload_n hx hb q_len_5 rfl (lv_at hl 0 rfl) ?_
  refine ai_pure (va_runV (C := "java/lang/String") (As := []) (rest := [.int (Int32.ofNat (ai_lns.getD i 0))]) (n := 0) ⟨hx, hb, hml, hown, hts⟩ (ai_c_cod l hi) ⟨callB_of 0 hts (ai_good1 c_cod) rfl rfl rfl (hts _ w_iS) (hts _ w_lcod) (by decide +kernel) (by show 0 + 1 ≤ e1 + 10 ∧ 8 + (1 + 11) + 60 * 0 ≤ 60 * e1 + 400; omega), hts _ w_icod, hts _ w_scod⟩ ⟨ai_Ps_blind, vk_recv hE hi hS, ai_PsU hE hZ⟩ rfl rfl hl.1 rfl (lv_room (Nat.le_of_ble_eq_true rfl)) q_len_6 ⟨Nat.zero_le _, Nat.zero_le _⟩) ?_
  refine lv_ishr hx hb q_len_9 ?_
  rw [ai_shr0 i hi, hln]
  exact W.iret hx hb B.returns (fun t ht hW => ⟨⟨lo, rfl, by rw [ht]; exact hP, hD.self, hok, ai_sm.rf⟩, hS.F ht⟩) (fun q h => by cases h) q_len_10 B.notSynchronized
set_option maxHeartbeats 4000000 in
theorem ai_con301 {l : Launch} {e1 j : Nat} {i0 : Int32} {s0 : List Int32} {h : ai_Hp} (hs : ai_strs[j]? = some s0) (hin : ai_in i0 s0.length = true) : ai_Con l e1 301 [.retAddr (j + 1), .int i0] h (.inl (some (.int (s0.getD i0.toNatClampNeg 0))), h) := by
  obtain ⟨i, hi, hsk, hby, hln⟩ := ai_strs_at hs
  have hsm := ai_lnsm i hi
  obtain ⟨k, hk, rfl⟩ := vp_in_of (ai_in_spec hin) (by rw [← hln]; omega)
  rw [nI_clamp (by omega)]
  have hk2 : k < ai_lns.getD i 0 := by rw [hln]; exact hk
  refine ⟨cJ0_charAt_5068e, 2, some .char, c_chr, by decide, fun h => absurd h (by decide +kernel), fun D cs ad adV lo sz => ?_⟩
  rw [Nat.sub_self, Nat.sub_self]
  refine ai_conM ?_
  refine Met.ofW (cc := cJ0_charAt_5068e) (maxL := 2) (ret := some .char) (by decide +kernel) rfl ?_
  intro p e s m args below meth c s₁ B hml hv
  obtain ⟨rfl, rfl, hP, hD, hok, hK, hN, hSR, hE, hZ⟩ := hv
  have hx := B.exec
  have hb := B.bytes
  have hts := fun w (h : w ∈ ai_tb) => atoms_spec B.pre w (List.mem_cons_of_mem _ h)
  have hown : s.vm.findClass "java/lang/String" = some m.cls := findClass_of_methodNamed B.named
  have hS : va_S (va_A (ai_w cs lo h) s.heap.size) s.heap s.heap [] := va_S.rf
  have hargs : ([Value.retAddr (j + 1), .int (nI k)].map (ai_tv lo (ai_skk ad))) = [.ref (ad i), .int (nI k)] := by rw [← hsk ad]; rfl
  rw [hargs] at hts ⊢
  have hl := lv_entry ([.ref (ad i), .int (nI k)]) (n := 2) (Nat.le_of_ble_eq_true rfl)
  rw [lg_entry_eq]
  generalize (lg_sl ([.ref (ad i), .int (nI k)]) ++ List.replicate (2 - (lg_sl ([.ref (ad i), .int (nI k)])).length) Slot.unset).toArray = ls at hl ⊢
  have hl : lv_has ls 2 [(0, .ref (ad i)), (1, .int (nI k))] := hl
  refine lv_aload_n hx hb q_chr_0 rfl (lv_at hl 0 rfl) ?_
  refine ai_pure (va_runV (C := "java/lang/String") (As := []) (rest := []) (n := 0) ⟨hx, hb, hml, hown, hts⟩ (ai_c_lat l hi) ⟨callB_of 0 hts (ai_good1 c_lat) rfl rfl rfl (hts _ w_iS) (hts _ w_llat) (by decide +kernel) (by show 0 + 1 ≤ e1 + 10 ∧ 8 + (1 + 11) + 60 * 0 ≤ 60 * e1 + 400; omega), hts _ w_ilat, hts _ w_slat⟩ ⟨ai_Ps_blind, vk_recv hE hi hS, ai_PsU hE hZ⟩ rfl rfl hl.1 rfl (lv_room (Nat.le_of_ble_eq_true rfl)) q_chr_1 ⟨Nat.zero_le _, Nat.zero_le _⟩) ?_
  refine lv_if_eq (tgt := 16) hx hb q_chr_4 (by decide) (fun c => absurd c (by decide)) (fun _ => ?_)
  refine lv_aload_n hx hb q_chr_7 rfl (lv_at hl 0 rfl) ?_
  refine vk_getf hx hb (hE.1 i hi).2.2.1 hS hown (hts _ w_fval) (fun _ h => h) q_chr_8 ?_
  refine lv_iload_n hx hb q_chr_11 rfl (lv_at hl 1 rfl) ?_
  refine ai_pure (va_runS (As := [.ref (adV i), .int (nI k)]) (rest := []) (n := 2) ⟨hx, hb, hml, hown, hts⟩ (ai_c_lch l hi hk2) ⟨callB_of 2 hts (ai_good1 c_lch) rfl rfl rfl (hts _ w_iL) (hts _ w_llch) (by decide +kernel) (by show 2 + 1 ≤ e1 + 10 ∧ 8 + (2 + 11) + 60 * 2 ≤ 60 * e1 + 400; omega), hts _ w_tlch⟩ ⟨ai_Ps_blind, ai_PsU hE hZ⟩ rfl rfl hl.1 rfl (lv_room (Nat.le_of_ble_eq_true rfl)) q_chr_12 ⟨Nat.zero_le _, Nat.zero_le _⟩) ?_
  rw [ai_and255 i hi k (by omega)]
  have hnc := ai_narc i hi k (by omega)
  rw [hby] at hnc ⊢
  exact W.zret (ty := .char) hx hb B.returns hnc (fun t ht hW => ⟨⟨lo, rfl, by rw [ht]; exact hP, hD.self, hok, ai_sm.rf⟩, hS.F ht⟩) (fun q h => by cases h) q_chr_15 B.notSynchronized
