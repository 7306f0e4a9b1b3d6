/-! the contract of 303: the router's row that grows -/
section AMR
variable {p : Program} {l : Launch} {e : Env} {R : Room} {s : State} {m : MethodId} {args : Array Value} {below : List Frame} {meth : Method} {c : Code} {H : Heap} {locs : List Loc} {cells slots : Nat} {Q : State → Prop}
set_option maxHeartbeats 4000000 in
theorem ai_mkr_pre {D : va_G} {cs : ClassId × ClassId × ClassId} {lo : Nat → Nat} {h : ai_Hp} {len : Nat} {ls : Array Slot} (hx : p.tables.exec = Jvm.exec) (hb : c.code = cX5_makeRoom) (hts : ∀ w ∈ ai_tb, w.before args s = true) (hown : s.vm.findClass "CourtProgress$Router" = some m.cls) (hK : va_K D ai_cl (ai_tys cs) s) (hP : va_P D ai_cl (ai_w cs lo h) H)
    (h45 : h.2.1[45]? = some (0, 5)) (h9 : h.2.1[9]? = some (0, 3)) (r9 : h.2.2.1 45 0 = some 9) (r49 : h.2.2.1 45 9 = some 49) (h49 : h.2.1[49]? = some (4, len)) (hl : lv_has ls 2 [(0, .ref (lo 45))])
    (kk : ∀ ls1 : Array Slot, lv_has ls1 2 [(1, .int (ai_mrsz (h.2.2.2.1 9 0))), (0, .ref (lo 45))] → W p l e R s m args below meth c H locs cells slots Q (F0 m 44 ls1 [.int (ai_mrsz (h.2.2.2.1 9 0)), .int (Int32.ofNat len)])) : W p l e R s m args below meth c H locs cells slots Q (F0 m 0 ls []) := by
  obtain ⟨C5, T5, N5, ty5, a1, a2, a3, a4, a5, a6, a7⟩ := ai_cls (ci := 5) (by decide)
  obtain ⟨C3, T3, N3, ty3, b1, b2, b3, b4, b5, b6, b7⟩ := ai_cls (ci := 3) (by decide)
  have e5 : (C5, T5, N5) = (RX5, TX5, 14) := Option.some.inj (a1.symm.trans (show ai_cl[5]? = some (RX5, TX5, 14) from rfl))
  have e3 : (C3, T3, N3) = (RX3, TX3, 11) := Option.some.inj (b1.symm.trans (show ai_cl[3]? = some (RX3, TX3, 11) from rfl))
  cases e5
  cases e3
  have f0 : ai_fv lo h 45 5 0 = .ref (lo 9) := by rw [ai_fv_2 (by decide +kernel) (by decide +kernel), r9]; rfl
  have f9 : ai_fv lo h 45 5 9 = .ref (lo 49) := by rw [ai_fv_2 (by decide +kernel) (by decide +kernel), r49]; rfl
  have g0 : ai_fv lo h 9 3 0 = .int (h.2.2.2.1 9 0) := ai_fv_0 (by decide +kernel)
  have land : ∀ (pc : Nat) (ls1 : Array Slot) (rest : List Value), decode cX5_makeRoom pc = .ok (.getfield 27, 3) → decode cX5_makeRoom (pc + 3) = .ok (.getfield 86, 3) → W p l e R s m args below meth c H locs cells slots Q (F0 m (pc + 3 + 3) ls1 (.int (h.2.2.2.1 9 0) :: rest)) → W p l e R s m args below meth c H locs cells slots Q (F0 m pc ls1 (.ref (lo 45) :: rest)) := by
    intro pc ls1 rest d1 d2 k
    refine va_get (D := D) (cl := ai_cl) (ci := 5) (ref := "CourtProgress$Router") (v := .ref (lo 9)) hx hb hts a4 hown hK hP 45 (ai_w_get h45) a1 0 (by decide) (hts _ w_fland) (fun _ h => h) (by rw [ai_fs_get (by decide), f0]) d1 ?_
    exact va_get (D := D) (cl := ai_cl) (ci := 3) (ref := "CourtProgress$Places") (v := .int (h.2.2.2.1 9 0)) hx hb hts b4 hown hK hP 9 (ai_w_get h9) b1 0 (by decide) (hts _ w_fsize) (fun _ h => h) (by rw [ai_fs_get (by decide), g0]) d2 k
  have key : W p l e R s m args below meth c H locs cells slots Q (F0 m 37 ls [.int (ai_mrsz (h.2.2.2.1 9 0))]) := by
    refine lv_istore_n (lv' := [(1, .int (ai_mrsz (h.2.2.2.1 9 0))), (0, .ref (lo 45))]) hx hb q_mkr_37 rfl hl (by decide) rfl (fun ls1 hl1 => ?_)
    refine lv_aload_n hx hb q_mkr_38 rfl (lv_at hl1 1 rfl) ?_
    refine va_get (D := D) (cl := ai_cl) (ci := 5) (ref := "CourtProgress$Router") (v := .ref (lo 49)) hx hb hts a4 hown hK hP 45 (ai_w_get h45) a1 9 (by decide) (hts _ w_fknown) (fun _ h => h) (by rw [ai_fs_get (by decide), f9]) q_mkr_39 ?_
    refine va_alen (D := D) (cl := ai_cl) hx hb hK hP 49 0 (ai_w_get h49) rfl rfl q_mkr_42 ?_
    refine lv_iload_n hx hb q_mkr_43 rfl (lv_at hl1 0 rfl) ?_
    exact kk ls1 hl1
  refine lv_aload_n hx hb q_mkr_0 rfl (lv_at hl 0 rfl) ?_
  refine land 1 ls [] q_mkr_1 q_mkr_4 ?_
  refine lv_iconst (v := 1) hx hb q_mkr_7 (by decide) ?_
  refine lv_icmp_ge (tgt := 15) hx hb q_mkr_8 (by decide) (fun hc => ?_) (fun hc => ?_)
  · refine lv_iconst (v := 1) hx hb q_mkr_15 (by decide) ?_
    refine lv_aload_n hx hb q_mkr_16 rfl (lv_at hl 0 rfl) ?_
    refine land 17 ls [.int 1] q_mkr_17 q_mkr_20 ?_
    refine lv_iconst (v := 1) hx hb q_mkr_23 (by decide) ?_
    refine lv_isub hx hb q_mkr_24 ?_
    refine lv_ishl hx hb q_mkr_25 ?_
    refine lv_aload_n hx hb q_mkr_26 rfl (lv_at hl 0 rfl) ?_
    refine land 27 ls _ q_mkr_27 q_mkr_30 ?_
    refine lv_imul hx hb q_mkr_33 ?_
    refine lv_bipush (v := 21) hx hb q_mkr_34 (by decide) ?_
    refine lv_imul hx hb q_mkr_36 ?_
    have : ai_mrsz (h.2.2.2.1 9 0) = (1 <<< ((h.2.2.2.1 9 0 - 1) &&& 31)) * h.2.2.2.1 9 0 * 21 := by
      unfold ai_mrsz
      rw [if_neg (by rw [Int32.not_lt]; exact hc)]
    rw [this] at key
    exact key
  · refine lv_iconst (v := 0) hx hb q_mkr_11 (by decide) ?_
    refine lv_goto (tgt := 37) hx hb q_mkr_12 (by decide) ?_
    have : ai_mrsz (h.2.2.2.1 9 0) = 0 := by
      unfold ai_mrsz
      rw [if_pos (by rw [← Int32.not_le]; exact hc)]
    rw [this] at key
    exact key
end AMR
theorem ai_mr_spec {h : ai_Hp} {r : (Option Value ⊕ Nat) × ai_Hp} (hp : ai_mr h = some r) : ai_mrOK h ∧ r = (.inl none, if Int32.ofNat ((ai_row h 49 4 4).getD 0) < ai_mrsz (h.2.2.2.1 9 0) then
    ((h.1.1 + 1, h.1.2 + (ai_mrsz (h.2.2.2.1 9 0)).toNatClampNeg), h.2.1.set 49 (4, (ai_mrsz (h.2.2.2.1 9 0)).toNatClampNeg), h.2.2.1, (fun a => if a = 49 then (fun _ => 0) else h.2.2.2.1 a), h.2.2.2.2) else h) := by
  unfold ai_mr at hp
  split at hp
  · rename_i hq
    exact ⟨hq, (Option.some.inj hp).symm⟩
  · cases hp
theorem ai_fs_set2 {lo lo1 : Nat → Nat} {h h1 : ai_Hp} {k ci j : Nat} {v : Value} (hv : ai_fv lo1 h1 k ci j = v) (ho : ∀ i, i ≠ j → ai_fv lo1 h1 k ci i = ai_fv lo h k ci i) : ai_fs lo1 h1 k ci = (ai_fs lo h k ci).set j v := by
  apply List.ext_getElem?
  intro i
  by_cases hi : i < ai_nf ci
  · by_cases hij : i = j
    · subst hij
      rw [List.getElem?_set_self (by rw [ai_fs_len]; exact hi), ai_fs_get hi, hv]
    · rw [List.getElem?_set_ne (Ne.symm hij), ai_fs_get hi, ai_fs_get hi, ho i hij]
  · have e1 : (ai_fs lo1 h1 k ci)[i]? = none := by rw [List.getElem?_eq_none_iff, ai_fs_len]; omega
    have e2 : ((ai_fs lo h k ci).set j v)[i]? = none := by rw [List.getElem?_eq_none_iff, List.length_set, ai_fs_len]; omega
    rw [e1, e2]
/-- the world behind the growing -/
theorem ai_mr_world {cs : ClassId × ClassId × ClassId} {lo : Nat → Nat} {h : ai_Hp} {q n len : Nat} (h45 : h.2.1[45]? = some (0, 5)) (h49 : h.2.1[49]? = some (4, len)) (r49 : h.2.2.1 45 9 = some 49) (huq : ∀ k j, h.2.2.1 k j = some 49 → k = 45 ∧ j = 9) : ∀ (k : Nat) (en : Nat × va_E), (ai_w cs (fun k => if k = 49 then q else lo k) ((h.1.1 + 1, h.1.2 + n), h.2.1.set 49 (4, n), h.2.2.1, (fun a => if a = 49 then (fun _ => 0) else h.2.2.2.1 a), h.2.2.2.2))[k]? = some en → ((ai_w cs lo h ++ [(q, (Sum.inl (cs.1, n, Sum.inl (fun _ => 0)) : va_E))]).set 45 (lo 45, (Sum.inr (5, (ai_fs lo h 45 5).set 9 (.ref q)) : va_E)))[if k = 49 then (ai_w cs lo h).length else k]? = some en ∧ k < h.2.1.length := by
  intro k en hk
  have hl49 : 49 < h.2.1.length := (List.getElem?_eq_some_iff.mp h49).1
  have hlen : k < h.2.1.length := by
    have := (List.getElem?_eq_some_iff.mp hk).1
    rw [ai_w_len] at this
    simpa using this
  refine ⟨?_, hlen⟩
  by_cases k49 : k = 49
  · subst k49
    rw [ai_w_get (q := (4, n)) (by show (h.2.1.set 49 (4, n))[49]? = _; rw [List.getElem?_set_self hl49])] at hk
    rw [if_pos rfl, List.getElem?_set_ne (by rw [ai_w_len]; omega), List.getElem?_append_right (Nat.le_refl _), Nat.sub_self]
    rw [← hk]
    simp [ai_we, ai_cA]
  · rw [if_neg k49]
    have hq : h.2.1[k]? = some h.2.1[k] := List.getElem?_eq_getElem hlen
    rw [ai_w_get (q := h.2.1[k]) (by show (h.2.1.set 49 (4, n))[k]? = _; rw [List.getElem?_set_ne (fun z => k49 z.symm)]; exact hq)] at hk
    have hfv : ∀ ci j, ¬ (k = 45 ∧ j = 9) → ai_fv (fun k => if k = 49 then q else lo k) ((h.1.1 + 1, h.1.2 + n), h.2.1.set 49 (4, n), h.2.2.1, (fun a => if a = 49 then (fun _ => 0) else h.2.2.2.1 a), h.2.2.2.2) k ci j = ai_fv lo h k ci j := by
      intro ci j hkj
      unfold ai_fv
      simp only [if_neg k49]
      split
      · rfl
      · rfl
      · cases hr : h.2.2.1 k j with
        | none => rfl
        | some v =>
          have hv : v ≠ 49 := fun z => by
            subst z
            exact hkj (huq k j hr)
          simp [hv]
    by_cases k45 : k = 45
    · subst k45
      rw [List.getElem?_set_self (by rw [List.length_append, ai_w_len]; omega)]
      have e0 : h.2.1[45] = (0, 5) := Option.some.inj (hq.symm.trans h45)
      rw [← hk, e0]
      rw [if_neg (by decide)]
      show some (lo 45, Sum.inr (5, (ai_fs lo h 45 5).set 9 (.ref q))) = some (lo 45, Sum.inr (5, ai_fs _ _ 45 5))
      congr 4
      refine (ai_fs_set2 (h := h) (lo := lo) (j := 9) (v := .ref q) ?_ (fun i hi => hfv 5 i (fun z => hi z.2))).symm
      rw [ai_fv_2 (by decide +kernel) (by decide +kernel)]
      show va_rf ((h.2.2.1 45 9).map _) = _
      rw [r49]
      rfl
    · rw [List.getElem?_set_ne (fun z => k45 z.symm), List.getElem?_append_left (by rw [ai_w_len]; exact hlen), ai_w_get hq, ← hk, if_neg k49]
      congr 2
      unfold ai_we ai_fs
      simp only [if_neg k49]
      have : ai_fv (fun k => if k = 49 then q else lo k) ((h.1.1 + 1, h.1.2 + n), h.2.1.set 49 (4, n), h.2.2.1, (fun a => if a = 49 then (fun _ => 0) else h.2.2.2.1 a), h.2.2.2.2) k (h.2.1[k]).2 = ai_fv lo h k (h.2.1[k]).2 := by
        funext j
        exact hfv _ j (fun z => k45 z.1)
      rw [this]
set_option maxHeartbeats 4000000 in
theorem ai_con303 {l : Launch} {e1 : Nat} {h : ai_Hp} {r : (Option Value ⊕ Nat) × ai_Hp} (hp : ai_mr h = some r) : ai_Con l e1 303 [.ref 45] h r := by
  obtain ⟨⟨o45, o9, r9, r49, hrow, hin, huq⟩, rfl⟩ := ai_mr_spec hp
  have h45 := ai_obj_spec o45
  have h9 := ai_obj_spec o9
  obtain ⟨len, hlen⟩ := Option.ne_none_iff_exists'.mp hrow
  have h49 : h.2.1[49]? = some (4, len) := by rcases ai_row_spec hlen with q | q <;> exact q
  rw [hlen]
  dsimp only [Option.getD_some]
  refine ⟨cX5_makeRoom, 2, none, c_mkr, by decide, fun _ => rfl, fun D cs ad adV lo sz => ?_⟩
  refine ai_conM ?_
  refine Met.ofW (cc := cX5_makeRoom) (maxL := 2) (ret := none) (by decide +kernel) rfl ?_
  intro p e s m args below meth c s₁ B hml hv
  obtain ⟨rfl, rfl, hP, hD0, hok, hSt⟩ := hv
  have hx := B.exec
  have hb := B.bytes
  have hts := fun w (h : w ∈ ai_tb) => atoms_spec B.pre w (List.mem_cons_of_mem _ h)
  have hown : s.vm.findClass "CourtProgress$Router" = some m.cls := findClass_of_methodNamed B.named
  have hS : va_S (va_A (ai_w cs lo h) s.heap.size) s.heap s.heap [] := va_S.rf
  have hD := hD0.self (sz := s.heap.size)
  have hA : ∀ q, s.heap.size ≤ q → va_A (ai_w cs lo h) s.heap.size q := fun q hq => Or.inr hq
  have hl := lv_entry ([.ref (lo 45)]) (n := 2) (Nat.le_of_ble_eq_true rfl)
  show W _ _ _ _ _ _ #[Value.ref (lo 45)] _ _ _ _ _ _ _ _ (entryFrame m [Value.ref (lo 45)].toArray 2)
  rw [lg_entry_eq]
  generalize (lg_sl ([.ref (lo 45)]) ++ List.replicate (2 - (lg_sl ([.ref (lo 45)])).length) Slot.unset).toArray = ls at hl ⊢
  have hl : lv_has ls 2 [(0, .ref (lo 45))] := hl
  refine ai_mkr_pre hx hb hts hown hSt.1 hP h45 h9 r9 r49 h49 hl (fun ls1 hl1 => ?_)
  generalize hz : ai_mrsz (h.2.2.2.1 9 0) = z at hin hl1 ⊢
  have hin2 := vp_in_iff.mp (ai_in_spec hin)
  have hn0 : ¬ z < 0 := by rw [Int32.not_lt, Int32.le_iff_toInt_le]; exact hin2.1
  have hnc : z.toNatClampNeg ≤ 1000000 := by
    show z.toInt.toNat ≤ 1000000
    omega
  refine lv_icmp_ge (tgt := 54) hx hb q_mkr_44 (by decide) (fun hc => ?_) (fun hc => ?_)
  · have hlt : ¬ Int32.ofNat len < z := by rw [Int32.not_lt]; exact hc
    simp only [if_neg hlt, Nat.sub_self]
    exact W.vret hx hb B.returns (fun t ht hW => ⟨⟨lo, rfl, by rw [ht]; exact hP, hD, hok, ai_sm.rf⟩, hS.F ht⟩) hS.2.2 q_mkr_54 B.notSynchronized
  · have hlt : Int32.ofNat len < z := by rw [← Int32.not_le]; exact hc
    simp only [if_pos hlt, show h.1.1 + 1 - h.1.1 = 1 by omega, show h.1.2 + z.toNatClampNeg - h.1.2 = z.toNatClampNeg by omega]
    refine lv_aload_n hx hb q_mkr_47 rfl (lv_at hl1 1 rfl) ?_
    refine lv_iload_n hx hb q_mkr_48 rfl (lv_at hl1 0 rfl) ?_
    refine va_newa (D := D) (cl := ai_cl) (ty := .int) (a0 := (z.toNatClampNeg, .inl (fun _ => 0))) hx hb (hts _ (ai_acl (ty := .int) (kd := 4) rfl)) rfl hSt.1 hP hD hS hA (fun _ => rfl) hn0 rfl (by show z.toNatClampNeg * 4 ≤ 536870912; omega) (by show 0 + 1 ≤ h.1.1 + 1 - h.1.1; omega) (by show 0 + z.toNatClampNeg ≤ h.1.2 + z.toNatClampNeg - h.1.2; omega) q_mkr_49 (fun q cA H1 k1 k2 k3 k4 => ?_)
    have hcA : cA = cs.1 := ai_newcls (ty := .int) (kd := 4) rfl k1
    subst hcA
    obtain ⟨g1, g2, g3, g4, g5, g6, g7⟩ : ai_Cls 5 RX5 TX5 14 tyX5 := ⟨rfl, rfl, rfl, fun w h => ai_tb_in (ai_inX5 w h), tyX5_ok, nmX5, by decide +kernel⟩
    have hl45 : 45 < h.2.1.length := (List.getElem?_eq_some_iff.mp h45).1
    refine va_put (D := D) (cl := ai_cl) (ci := 5) (v := .ref q) (ty := tyX5 9) (ref := "CourtProgress$Router") (C := RX5) (T := TX5) (N := 14) hx hb hts g4 tyX5 g5 g6 hown hSt.1 k2 k3 k4 45 (by rw [List.getElem?_append_left (by rw [ai_w_len]; exact hl45)]; exact ai_w_get h45) g1 9 (by decide) (hts _ w_fknown) (fun _ h => h) rfl (g5 9 (by decide)) rfl rfl (by rw [ai_fs_len]; decide) q_mkr_51 (fun H2 locs2 k5 k6 k7 => ?_)
    have hw := ai_mr_world (cs := cs) (lo := lo) (q := q) (n := z.toNatClampNeg) h45 h49 r49 huq
    show W _ _ _ _ _ _ _ _ _ _ _ _ 1 (0 + z.toNatClampNeg) _ _
    rw [Nat.zero_add]
    refine W.vret (hexec := hx) (hb := hb) B.returns (fun t ht hW => ⟨⟨fun k => if k = 49 then q else lo k, rfl, ?_, ⟨fun i j x y hi hj hxy => ?_, fun k x hk => ?_⟩, fun k j v hv => ?_, fun k x hk hx4 => ?_⟩, k7.F ht⟩) k7.2.2 q_mkr_54 B.notSynchronized
    · intro k x hk
      rw [ht]
      exact k5 _ _ (hw k x hk).1
    · have := k6.1 _ _ _ _ (hw i x hi).1 (hw j y hj).1 hxy
      have l1 := (hw i x hi).2
      have l2 := (hw j y hj).2
      rw [ai_w_len] at this
      split at this <;> split at this <;> omega
    · exact k6.2 _ _ (hw k x hk).1
    · have := hok k j v hv
      simpa using this
    · have hk49 : k ≠ 49 := fun z => by
        subst z
        rw [h49] at hk
        cases hk
        exact hx4 rfl
      refine ⟨?_, by show (if k = 49 then q else lo k) = lo k; rw [if_neg hk49]⟩
      show (h.2.1.set 49 _)[k]? = _
      rw [List.getElem?_set_ne (fun z => hk49 z.symm)]
      exact hk
/-- THE FOUR -/
theorem ai_prim_con {l : Launch} (e1 cal : Nat) (vs : List Value) (h : ai_Hp) (r : (Option Value ⊕ Nat) × ai_Hp) (_ : 300 ≤ cal) (_ : cal < 304) (hp : ai_prim cal vs h = some r) : ai_Con l e1 cal vs h r := by
  unfold ai_prim at hp
  split at hp
  · split at hp
    · rename_i s hs
      cases hp
      exact ai_con300 hs
    · cases hp
  · split at hp
    · rename_i s hs
      obtain ⟨hi, hp⟩ := ai_cnd hp
      cases hp
      exact ai_con301 hs hi
    · cases hp
  · obtain ⟨hi, hp⟩ := ai_cnd hp
    cases hp
    simp only [Bool.and_eq_true] at hi
    exact ai_con302 hi.1 hi.2
  · exact ai_con303 hp
  · cases hp
/-- a run of a method of the class or of the reference, as a contract -/
theorem ai_run_con {l : Launch} {d mi : Nat} {vs : List Value} {h : ai_Hp} {r : (Option Value ⊕ Nat) × ai_Hp} (hmi : mi < 216) (h174 : mi ≠ 174) (hr : ai_run d mi 0 (ai_ent (ai_mx mi) vs) [] h = some r) : ai_Con l d mi vs h r := by
  obtain ⟨n, hn⟩ := ai_run_iff.mp hr
  refine ai_con_of hmi h174 (ai_ex_po n hn).1 (fun X G hl hG C F => ?_)
  subst hG
  exact ai_ex_snd (l := l) ai_prim_con n X G hl C F hn
