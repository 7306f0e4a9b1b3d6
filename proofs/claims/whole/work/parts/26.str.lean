/-! String.length, String.charAt -/
def ai_Ps (ad adV : Nat → Nat) (A : Nat → Prop) (av : List Value) : Array Value → State → Prop := va_Pc av (fun U => vk_S 10 ai_lns ai_byt ad adV A U U.heap ∧ ai_Zs A U U.heap)
theorem ai_Ps_blind {ad adV : Nat → Nat} {A : Nat → Prop} {av : List Value} : FrameBlind (ai_Ps ad adV A av) := by
  intro a U g mk h
  exact ⟨h.1, h.2.1.moved (u := U) (U := U.calling g mk a) (Vm.Alike.refl U.vm), h.2.2.moved (u := U) (U := U.calling g mk a) (Vm.Alike.refl U.vm)⟩
def ai_Qr (v : Option Value) : Array Value → State → Outcome → State → Prop := fun _ st o t => o = .returned v ∧ t.heap = st.heap
abbrev ai_r0 (n : Nat) : Room := { frames := n, cells := 0, slots := 0, locals := 60 * n }
section APR
variable {p : Program} {l : Launch} {e : Env} {R : Room} {s : State} {m : MethodId} {args : Array Value} {below : List Frame} {meth : Method} {c : Code} {H : Heap} {locs : List Loc} {cells slots : Nat} {Q : State → Prop}
theorem ai_pure {pc : Nat} {ls : Array Slot} {st0 rest : List Value} {v : Option Value} {a : Array Value} (hr : va_Run p l e R s m args below meth c H locs cells slots 0 0 (F0 m pc ls st0) rest (ai_Qr v a) (fun _ => False)) (kk : W p l e R s m args below meth c H locs cells slots Q (F0 m (pc + 3) ls (v.toList ++ rest))) : W p l e R s m args below meth c H locs cells slots Q (F0 m pc ls st0) := by
  intro T hT X
  obtain ⟨v1, st₀, t, T1, L, h0, X1, hL, e1, e2, ⟨hv, hh⟩, st⟩ := hr T hT X
  cases hv
  have : L = [] := by
    cases L with
    | nil => rfl
    | cons q _ => exact (hL q List.mem_cons_self).elim
  subst this
  rw [List.append_nil] at X1
  obtain ⟨t2, a1, b1⟩ := kk T1 (by rw [e1, hh, h0]) X1
  exact ⟨t2, st t2 a1, b1⟩
end APR
theorem ai_PsU {ad adV : Nat → Nat} {A : Nat → Prop} {av : List Value} {s : State} (hE : vk_S 10 ai_lns ai_byt ad adV A s s.heap) (hZ : ai_Zs A s s.heap) : ∀ U : State, U.heap = s.heap → s.WarmedH U.vm → ai_Ps ad adV A av av.toArray U := by
  intro U hU hW
  exact ⟨rfl, by rw [hU]; exact hE.moved hW.alike, by rw [hU]; exact hZ.moved hW.alike⟩
set_option maxHeartbeats 4000000 in
theorem ai_c_cod (l : Launch) {ad adV : Nat → Nat} {A : Nat → Prop} {i : Nat} (hi : i < 10) : Met l yJ0_coder_7d493 (Cond.code yJ0_coder_7d493 cJ0_coder_7d493 1 (some .byte) :: ai_tb) (ai_r0 0) (ai_Ps ad adV A [.ref (ad i)]) (ai_Qr (some (.int 0))) 0 0 (fun _ => False) := by
  refine Met.ofW (cc := cJ0_coder_7d493) (maxL := 1) (ret := some .byte) (by decide) rfl ?_
  intro p e s m args below meth c s₁ B hml hv
  obtain ⟨rfl, hE, hZ⟩ := hv
  have hx := B.exec
  have hb := B.bytes
  have hts := fun w (h : w ∈ ai_tb) => atoms_spec B.pre w (List.mem_cons_of_mem _ h)
  have hown : s.vm.findClass "java/lang/String" = some m.cls := findClass_of_methodNamed B.named
  have hS : va_S A s.heap s.heap [] := va_S.rf
  have hl := lv_entry ([.ref (ad i)]) (n := 1) (Nat.le_of_ble_eq_true rfl)
  rw [lg_entry_eq]
  generalize (lg_sl ([.ref (ad i)]) ++ List.replicate (1 - (lg_sl ([.ref (ad i)])).length) Slot.unset).toArray = ls at hl ⊢
  have hl : lv_has ls 1 [(0, .ref (ad i))] := hl
  refine va_gets hx hb hZ.1 hS hown (hts _ w_fcs) (fun _ h => h) q_cod_0 ?_
  refine lv_if_eq (tgt := 13) hx hb q_cod_3 (by decide) (fun c => absurd c (by decide)) (fun _ => ?_)
  refine lv_aload_n hx hb q_cod_6 rfl (lv_at hl 0 rfl) ?_
  refine vk_getf hx hb (hE.1 i hi).2.1 hS hown (hts _ w_fcod) (fun _ h => h) q_cod_7 ?_
  refine lv_goto (tgt := 14) hx hb q_cod_10 (by decide) ?_
  exact W.zret (ty := .byte) hx hb B.returns (by decide) (fun t ht hW => ⟨rfl, ht⟩) (fun q h => by cases h) q_cod_14 B.notSynchronized
set_option maxHeartbeats 4000000 in
theorem ai_c_lat (l : Launch) {ad adV : Nat → Nat} {A : Nat → Prop} {i : Nat} (hi : i < 10) : Met l yJ0_isLatin1_aae02 (Cond.code yJ0_isLatin1_aae02 cJ0_isLatin1_aae02 1 (some .boolean) :: ai_tb) (ai_r0 0) (ai_Ps ad adV A [.ref (ad i)]) (ai_Qr (some (.int 1))) 0 0 (fun _ => False) := by
  refine Met.ofW (cc := cJ0_isLatin1_aae02) (maxL := 1) (ret := some .boolean) (by decide) rfl ?_
  intro p e s m args below meth c s₁ B hml hv
  obtain ⟨rfl, hE, hZ⟩ := hv
  have hx := B.exec
  have hb := B.bytes
  have hts := fun w (h : w ∈ ai_tb) => atoms_spec B.pre w (List.mem_cons_of_mem _ h)
  have hown : s.vm.findClass "java/lang/String" = some m.cls := findClass_of_methodNamed B.named
  have hS : va_S A s.heap s.heap [] := va_S.rf
  have hl := lv_entry ([.ref (ad i)]) (n := 1) (Nat.le_of_ble_eq_true rfl)
  rw [lg_entry_eq]
  generalize (lg_sl ([.ref (ad i)]) ++ List.replicate (1 - (lg_sl ([.ref (ad i)])).length) Slot.unset).toArray = ls at hl ⊢
  have hl : lv_has ls 1 [(0, .ref (ad i))] := hl
  refine va_gets hx hb hZ.1 hS hown (hts _ w_fcs) (fun _ h => h) q_lat_0 ?_
  refine lv_if_eq (tgt := 17) hx hb q_lat_3 (by decide) (fun c => absurd c (by decide)) (fun _ => ?_)
  refine lv_aload_n hx hb q_lat_6 rfl (lv_at hl 0 rfl) ?_
  refine vk_getf hx hb (hE.1 i hi).2.1 hS hown (hts _ w_fcod) (fun _ h => h) q_lat_7 ?_
  refine lv_if_ne (tgt := 17) hx hb q_lat_10 (by decide) (fun c => absurd rfl c) (fun _ => ?_)
  refine lv_iconst (v := 1) hx hb q_lat_13 (by decide) ?_
  refine lv_goto (tgt := 18) hx hb q_lat_14 (by decide) ?_
  exact W.zret (ty := .boolean) hx hb B.returns (by decide) (fun t ht hW => ⟨rfl, ht⟩) (fun q h => by cases h) q_lat_18 B.notSynchronized
set_option maxHeartbeats 4000000 in
theorem ai_c_prc (l : Launch) {ad adV : Nat → Nat} {A : Nat → Prop} {k n : Int32} {fv : Value} (hk : ¬ k < 0) (hn : k < n) (hfv : fv = .null ∨ ∃ t, fv = .ref t) : Met l yJ3_checkIndex_8e157 (Cond.code yJ3_checkIndex_8e157 cJ3_checkIndex_8e157 3 (some .int) :: ai_tb) (ai_r0 0) (ai_Ps ad adV A [.int k, .int n, fv]) (ai_Qr (some (.int k))) 0 0 (fun _ => False) := by
  refine Met.ofW (cc := cJ3_checkIndex_8e157) (maxL := 3) (ret := some .int) (by decide) rfl ?_
  intro p e s m args below meth c s₁ B hml hv
  obtain ⟨rfl, hE, hZ⟩ := hv
  have hx := B.exec
  have hb := B.bytes
  have hl := lv_entry ([.int k, .int n, fv]) (n := 3) (by rcases hfv with rfl | ⟨t, rfl⟩ <;> exact Nat.le_of_ble_eq_true rfl)
  rw [lg_entry_eq]
  generalize (lg_sl ([.int k, .int n, fv]) ++ List.replicate (3 - (lg_sl ([.int k, .int n, fv])).length) Slot.unset).toArray = ls at hl ⊢
  have hl : lv_has ls 3 [(0, .int k), (1, .int n), (2, fv)] := hl
  refine lv_iload_n hx hb q_prc_0 rfl (lv_at hl 0 rfl) ?_
  refine lv_if_lt (tgt := 9) hx hb q_prc_1 (by decide) (fun c => absurd c hk) (fun _ => ?_)
  refine lv_iload_n hx hb q_prc_4 rfl (lv_at hl 0 rfl) ?_
  refine lv_iload_n hx hb q_prc_5 rfl (lv_at hl 1 rfl) ?_
  refine lv_icmp_lt (tgt := 16) hx hb q_prc_6 (by decide) (fun _ => ?_) (fun c => absurd hn c)
  refine lv_iload_n hx hb q_prc_16 rfl (lv_at hl 0 rfl) ?_
  exact W.iret hx hb B.returns (fun t ht hW => ⟨rfl, ht⟩) (fun q h => by cases h) q_prc_17 B.notSynchronized
set_option maxHeartbeats 4000000 in
theorem ai_c_chk (l : Launch) {ad adV : Nat → Nat} {A : Nat → Prop} {k n : Int32} (hk : ¬ k < 0) (hn : k < n) : Met l yJ0_checkIndex_df160 (Cond.code yJ0_checkIndex_df160 cJ0_checkIndex_df160 2 none :: ai_tb) (ai_r0 1) (ai_Ps ad adV A [.int k, .int n]) (ai_Qr none) 0 0 (fun _ => False) := by
  refine Met.ofW (cc := cJ0_checkIndex_df160) (maxL := 2) (ret := none) (by decide) rfl ?_
  intro p e s m args below meth c s₁ B hml hv
  obtain ⟨rfl, hE, hZ⟩ := hv
  have hx := B.exec
  have hb := B.bytes
  have hts := fun w (h : w ∈ ai_tb) => atoms_spec B.pre w (List.mem_cons_of_mem _ h)
  have hown : s.vm.findClass "java/lang/String" = some m.cls := findClass_of_methodNamed B.named
  have hS : va_S A s.heap s.heap [] := va_S.rf
  have hl := lv_entry ([.int k, .int n]) (n := 2) (Nat.le_of_ble_eq_true rfl)
  rw [lg_entry_eq]
  generalize (lg_sl ([.int k, .int n]) ++ List.replicate (2 - (lg_sl ([.int k, .int n])).length) Slot.unset).toArray = ls at hl ⊢
  have hl : lv_has ls 2 [(0, .int k), (1, .int n)] := hl
  refine lv_iload_n hx hb q_chk_0 rfl (lv_at hl 0 rfl) ?_
  refine lv_iload_n hx hb q_chk_1 rfl (lv_at hl 1 rfl) ?_
  have key : ∀ fv : Value, (fv = .null ∨ ∃ t, fv = .ref t) → va_Z "jdk/internal/util/Preconditions" "SIOOBE_FORMATTER" "Ljava/util/function/BiFunction;" fv A s s.heap → W p l e (ai_r0 1) s m #[Value.int k, Value.int n] below meth c s.heap [] 0 0 (MQ below (ai_Qr none) #[Value.int k, Value.int n] s 0 0 (fun _ => False)) (F0 m 2 ls [.int n, .int k]) := by
    intro fv hfv hzf
    refine va_gets hx hb hzf hS hown (hts _ w_ffm) (fun _ h => h) q_chk_2 ?_
    refine ai_pure (va_runS (As := [.int k, .int n, fv]) (rest := []) (n := 3) ⟨hx, hb, hml, hown, hts⟩ (ai_c_prc l hk hn hfv) ⟨callB_of 3 hts (ai_good1 c_prc) rfl rfl rfl (hts _ w_iP) (hts _ w_lprc) (by decide +kernel) ⟨Nat.le_of_ble_eq_true rfl, Nat.le_of_ble_eq_true rfl⟩, hts _ w_tprc⟩ ⟨ai_Ps_blind, ai_PsU hE hZ⟩ rfl rfl hl.1 rfl (lv_room (Nat.le_of_ble_eq_true rfl)) q_chk_5 ⟨Nat.le_refl _, Nat.le_refl _⟩) ?_
    refine lv_pop hx hb q_chk_8 rfl ?_
    exact W.vret hx hb B.returns (fun t ht hW => ⟨rfl, ht⟩) (fun q h => by cases h) q_chk_9 B.notSynchronized
  rcases hZ.2.2.2 with h | ⟨t, h⟩
  · exact key _ (Or.inl rfl) h
  · exact key _ (Or.inr ⟨t, rfl⟩) h
set_option maxHeartbeats 4000000 in
theorem ai_c_lch (l : Launch) {ad adV : Nat → Nat} {A : Nat → Prop} {i k : Nat} (hi : i < 10) (hk : k < ai_lns.getD i 0) : Met l yJ1_charAt_3b067 (Cond.code yJ1_charAt_3b067 cJ1_charAt_3b067 2 (some .char) :: ai_tb) (ai_r0 2) (ai_Ps ad adV A [.ref (adV i), .int (nI k)]) (ai_Qr (some (.int ((ai_byt.getD i []).getD k 0 &&& 255)))) 0 0 (fun _ => False) := by
  have hsm : ai_lns.getD i 0 < 10 := by
    have key : ∀ i, i < 10 → ai_lns.getD i 0 < 10 := by decide +kernel
    exact key i hi
  refine Met.ofW (cc := cJ1_charAt_3b067) (maxL := 2) (ret := some .char) (by decide) rfl ?_
  intro p e s m args below meth c s₁ B hml hv
  obtain ⟨rfl, hE, hZ⟩ := hv
  have hx := B.exec
  have hb := B.bytes
  have hts := fun w (h : w ∈ ai_tb) => atoms_spec B.pre w (List.mem_cons_of_mem _ h)
  have hown : s.vm.findClass "java/lang/StringLatin1" = some m.cls := findClass_of_methodNamed B.named
  have hS : va_S A s.heap s.heap [] := va_S.rf
  have hl := lv_entry ([.ref (adV i), .int (nI k)]) (n := 2) (Nat.le_of_ble_eq_true rfl)
  rw [lg_entry_eq]
  generalize (lg_sl ([.ref (adV i), .int (nI k)]) ++ List.replicate (2 - (lg_sl ([.ref (adV i), .int (nI k)])).length) Slot.unset).toArray = ls at hl ⊢
  have hl : lv_has ls 2 [(0, .ref (adV i)), (1, .int (nI k))] := hl
  refine lv_iload_n hx hb q_lch_0 rfl (lv_at hl 1 rfl) ?_
  refine lv_aload_n hx hb q_lch_1 rfl (lv_at hl 0 rfl) ?_
  refine va_tlen hx hb (hE.1 i hi).2.2.2 hS rfl q_lch_2 ?_
  have h0 : ¬ nI k < 0 := nI_pos (by omega)
  have h1 : nI k < Int32.ofNat (ai_lns.getD i 0) := nI_lt hk (by omega)
  refine ai_pure (va_runS (As := [.int (nI k), .int (Int32.ofNat (ai_lns.getD i 0))]) (rest := []) (n := 2) ⟨hx, hb, hml, hown, hts⟩ (ai_c_chk l h0 h1) ⟨callB_of 2 hts (ai_good1 c_chk) rfl rfl rfl (hts _ w_iS) (hts _ w_lchk) (by decide +kernel) ⟨Nat.le_of_ble_eq_true rfl, Nat.le_of_ble_eq_true rfl⟩, hts _ w_tchk⟩ ⟨ai_Ps_blind, ai_PsU hE hZ⟩ rfl rfl hl.1 rfl (lv_room (Nat.le_of_ble_eq_true rfl)) q_lch_3 ⟨Nat.le_refl _, Nat.le_refl _⟩) ?_
  refine lv_aload_n hx hb q_lch_6 rfl (lv_at hl 0 rfl) ?_
  refine lv_iload_n hx hb q_lch_7 rfl (lv_at hl 1 rfl) ?_
  refine va_tb hx hb (hE.1 i hi).2.2.2 hS (vp_in_nI hk (by omega)) rfl q_lch_8 ?_
  rw [nI_clamp (by omega)]
  refine lv_sipush (v := 255) hx hb q_lch_9 (by decide) ?_
  refine lv_iand hx hb q_lch_12 ?_
  refine lv_i2c hx hb q_lch_13 (sc_c2 _) ?_
  exact W.zret (ty := .char) hx hb B.returns (sc_nar _) (fun t ht hW => ⟨rfl, ht⟩) (fun q h => by cases h) q_lch_14 B.notSynchronized
