/-! the law's loop -/
theorem dl_0 : decode code 0 = .ok (.new 7, 3) := by decide +kernel
theorem dl_3 : decode code 3 = .ok (.dup, 1) := by decide +kernel
theorem dl_4 : decode code 4 = .ok (.invokespecial 9, 3) := by decide +kernel
theorem dl_7 : decode code 7 = .ok (.astore_n 1, 1) := by decide +kernel
theorem dl_8 : decode code 8 = .ok (.new 10, 3) := by decide +kernel
theorem dl_11 : decode code 11 = .ok (.dup, 1) := by decide +kernel
theorem dl_12 : decode code 12 = .ok (.invokespecial 12, 3) := by decide +kernel
theorem dl_15 : decode code 15 = .ok (.astore_n 2, 1) := by decide +kernel
theorem dl_16 : decode code 16 = .ok (.iconst 0, 1) := by decide +kernel
theorem dl_17 : decode code 17 = .ok (.istore_n 3, 1) := by decide +kernel
theorem dl_18 : decode code 18 = .ok (.iload_n 3, 1) := by decide +kernel
theorem dl_19 : decode code 19 = .ok (.aload_n 0, 1) := by decide +kernel
theorem dl_20 : decode code 20 = .ok (.arraylength, 1) := by decide +kernel
theorem dl_21 : decode code 21 = .ok (.bipush 6, 2) := by decide +kernel
theorem dl_23 : decode code 23 = .ok (.isub, 1) := by decide +kernel
theorem dl_24 : decode code 24 = .ok (.if_icmp .gt 1099, 3) := by decide +kernel
theorem dl_27 : decode code 27 = .ok (.aload_n 0, 1) := by decide +kernel
theorem dl_28 : decode code 28 = .ok (.iload_n 3, 1) := by decide +kernel
theorem dl_29 : decode code 29 = .ok (.iaload, 1) := by decide +kernel
theorem dl_30 : decode code 30 = .ok (.bipush 31, 2) := by decide +kernel
theorem dl_32 : decode code 32 = .ok (.iand, 1) := by decide +kernel
theorem dl_33 : decode code 33 = .ok (.tableswitch 1084 0 30 #[139, 182, 241, 284, 337, 380, 423, 456, 499, 562, 595, 608, 621, 644, 703, 726, 749, 772, 795, 818, 841, 854, 877, 910, 933, 956, 979, 1002, 1025, 1048, 1071], 139) := by decide +kernel
theorem dl_1117 : decode code 1117 = .ok (.iinc 3 6, 3) := by decide +kernel
theorem dl_1120 : decode code 1120 = .ok (.goto (-1102), 3) := by decide +kernel
theorem dl_1123 : decode code 1123 = .ok (.iconst 1, 1) := by decide +kernel
theorem dl_1124 : decode code 1124 = .ok (.ireturn, 1) := by decide +kernel
def lw_of : Array Int := #[139, 182, 241, 284, 337, 380, 423, 456, 499, 562, 595, 608, 621, 644, 703, 726, 749, 772, 795, 818, 841, 854, 877, 910, 933, 956, 979, 1002, 1025, 1048, 1071]
theorem lw_of_ok : ((List.range 31).all fun k => match lw_cs[k]?, lw_of[k]? with
    | some c, some o => decide ((33 : Int) + o = (c.1 : Int))
    | _, _ => false) = true := by decide +kernel
theorem lw_of_at {k : Nat} (h : k < 31) : ∃ c o, lw_cs[k]? = some c ∧ lw_of[k]? = some o ∧ (33 : Int) + o = (c.1 : Int) := by
  have := List.all_eq_true.mp lw_of_ok k (List.mem_range.mpr h)
  cases hc : lw_cs[k]? with
  | none => rw [hc] at this; cases this
  | some c =>
    cases ho : lw_of[k]? with
    | none => rw [hc, ho] at this; cases this
    | some o =>
      rw [hc, ho] at this
      exact ⟨c, o, rfl, rfl, of_decide_eq_true this⟩
/-- what the law asks of an invariant of the two worlds -/
def lw_Inv (Inv : Nat → ai_Hp → ai_Hp → Prop) : Prop := (∀ t hC hM, t ≤ 512 → Inv t hC hM → hC.1.1 + hM.1.1 ≤ 601024 ∧ hC.1.2 + hM.1.2 ≤ 7293034) ∧ (∀ t hC hM, Inv t hC hM → hC.2.1[0]? = some (0, 9) ∧ hM.2.1[0]? = some (0, 11)) ∧ (∀ t hC hM, Inv t hC hM → Inv (t + 1) hC hM) ∧ ∀ (t : Nat) (hC hM : ai_Hp) (k : Nat) (cse : lw_C) (f : Nat → Int32), t < 512 → Inv t hC hM → lw_cs[k]? = some cse → ∃ (v : Int32) (hC' hM' : ai_Hp), ai_run 200 cse.2.2.1.2.1 0 (ai_ent (ai_mx cse.2.2.1.2.1) (.ref 0 :: cse.2.1.map (fun a => Value.int (lw_v f a)))) [] hC = some (.inl (some (.int v)), hC') ∧ ai_run 200 cse.2.2.2.2.1 0 (ai_ent (ai_mx cse.2.2.2.2.1) (.ref 0 :: cse.2.1.map (fun a => Value.int (lw_v f a)))) [] hM = some (.inl (some (.int v)), hM') ∧ Inv (t + 1) hC' hM'
set_option maxHeartbeats 4000000 in
theorem lw_loop {p : Program} {e : Env} {s : State} {m : MethodId} {below : List Frame} {meth : Method} {c : Code} {l : Launch} {b L : Nat} {xs : Nat → Int32} (hL : L ≤ 3072) (C0 : lw_At p s m meth c b L xs) {D : va_G} {cs : ClassId × ClassId × ClassId} {ad adV : Nat → Nat} (hSt : ai_Sta D cs ad adV (fun q => s.heap.size ≤ q) s) {Inv : Nat → ai_Hp → ai_Hp → Prop} (hI : lw_Inv Inv) : ∀ (n t : Nat) (loC loM : Nat → Nat) (hC hM : ai_Hp) (H : Heap) (locs : List Loc) (ls : Array Slot), L + 1 ≤ n + 6 * t → 6 * t ≤ L + 5 → Inv t hC hM → lw_W D cs (fun q => s.heap.size ≤ q) s loC loM hC hM H locs → lv_has ls 4 [(0, .ref b), (1, .ref (loC 0)), (2, .ref (loM 0)), (3, .int (nI (6 * t)))] → W p l e room_1 s m #[Value.ref b] below meth c H locs (hC.1.1 + hM.1.1) (hC.1.2 + hM.1.2) (lw_Z below #[Value.ref b] s) (F0 m 18 ls []) := by
  obtain ⟨hx, hb, hr, hml, hown, hts, hX, hbl, hlocks, hgv⟩ := id C0
  obtain ⟨hIB, hI0, hIm, hIs⟩ := hI
  have hA : ∀ q : Nat, s.heap.size ≤ q → (fun q : Nat => s.heap.size ≤ q) q := fun _ h => h
  have hbA : ¬ (fun q : Nat => s.heap.size ≤ q) b := Nat.not_le.mpr hbl
  intro n
  induction n with
  | zero =>
    intro t loC loM hC hM H locs ls hn ht hi S hl
    -- the loop is over: 6 t > L
    have hb1 := hIB t hC hM (by omega) hi
    refine lv_iload_n hx hb dl_18 rfl (lv_at hl 3 rfl) ?_
    refine lv_aload_n hx hb dl_19 rfl (lv_at hl 0 rfl) ?_
    refine va_slen hx hb hX hbl hbA S.2.2.2.1 dl_20 ?_
    refine lv_bipush (v := nI 6) hx hb dl_21 (by decide) ?_
    refine lv_isub hx hb dl_23 ?_
    refine lv_icmp_gt (tgt := 1123) hx hb dl_24 (by decide) (fun _ => ?_) (fun hc => ?_)
    · refine lv_iconst (v := 1) hx hb dl_1123 (by decide) ?_
      refine va_forget S.2.2.2.1.2.2 ?_
      refine W.widen (k := 601024) (n := 7293034) hb1.1 hb1.2 ?_
      exact lw_ret hx hb hr hlocks dl_1124
    · exfalso
      apply hc
      rw [Int32.lt_iff_toInt_lt, nI_toInt (by omega)]
      have := pk_sub_toInt (a := L) (b := 6) (by omega) (by omega)
      rw [show (Int32.ofNat L - nI 6) = nI L - nI 6 from rfl, this]
      omega
  | succ n ih =>
    intro t loC loM hC hM H locs ls hn ht hi S hl
    have hb1 := hIB t hC hM (by omega) hi
    have h00 := hI0 t hC hM hi
    refine lv_iload_n hx hb dl_18 rfl (lv_at hl 3 rfl) ?_
    refine lv_aload_n hx hb dl_19 rfl (lv_at hl 0 rfl) ?_
    refine va_slen hx hb hX hbl hbA S.2.2.2.1 dl_20 ?_
    refine lv_bipush (v := nI 6) hx hb dl_21 (by decide) ?_
    refine lv_isub hx hb dl_23 ?_
    refine lv_icmp_gt (tgt := 1123) hx hb dl_24 (by decide) (fun _ => ?_) (fun hc => ?_)
    · refine lv_iconst (v := 1) hx hb dl_1123 (by decide) ?_
      refine va_forget S.2.2.2.1.2.2 ?_
      refine W.widen (k := 601024) (n := 7293034) hb1.1 hb1.2 ?_
      exact lw_ret hx hb hr hlocks dl_1124
    · have hle : 6 * t + 6 ≤ L := by
        rw [Int32.lt_iff_toInt_lt, nI_toInt (by omega)] at hc
        have := pk_sub_toInt (a := L) (b := 6) (by omega) (by omega)
        rw [show (Int32.ofNat L - nI 6) = nI L - nI 6 from rfl, this] at hc
        omega
      have next : ∀ (loC' loM' : Nat → Nat) (hC' hM' : ai_Hp) (H1 : Heap) (locs1 : List Loc), Inv (t + 1) hC' hM' → lw_W D cs (fun q => s.heap.size ≤ q) s loC' loM' hC' hM' H1 locs1 → loC' 0 = loC 0 → loM' 0 = loM 0 → W p l e room_1 s m #[Value.ref b] below meth c H1 locs1 (hC'.1.1 + hM'.1.1) (hC'.1.2 + hM'.1.2) (lw_Z below #[Value.ref b] s) (F0 m 1117 ls []) := by
        intro loC' loM' hC' hM' H1 locs1 hi1 S1 e1 e2
        refine lv_iinc (v := nI (6 * (t + 1))) (lv' := [(3, .int (nI (6 * (t + 1)))), (0, .ref b), (1, .ref (loC 0)), (2, .ref (loM 0))]) hx hb dl_1117 hl (k := 3) rfl (by rw [show Int32.ofInt 6 = nI 6 from rfl, nI_add]; rfl) (by decide) rfl (fun ls1 hl1 => ?_)
        refine lv_goto (tgt := 18) hx hb dl_1120 (by decide) ?_
        refine ih (t + 1) loC' loM' hC' hM' H1 locs1 ls1 (by omega) (by omega) hi1 S1 ?_
        rw [e1, e2]
        exact lv_sub hl1 [1, 2, 3, 0] rfl
      refine lv_aload_n hx hb dl_27 rfl (lv_at hl 0 rfl) ?_
      refine lv_iload_n hx hb dl_28 rfl (lv_at hl 3 rfl) ?_
      refine va_sld hx hb hX hbl hbA S.2.2.2.1 (vp_in_nI (show 6 * t < L by omega) (by omega)) dl_29 ?_
      refine lv_bipush (v := 31) hx hb dl_30 (by decide) ?_
      refine lv_iand hx hb dl_32 ?_
      obtain ⟨k, hk, ek⟩ := pk_andE (xs (nI (6 * t)).toNatClampNeg) (m := 31) 5 (by decide)
      rw [ek]
      have hk32 : k < 32 := hk
      have hkt : (nI k).toInt = (k : Int) := nI_toInt (by omega)
      by_cases h31 : k = 31
      · subst h31
        refine lv_tableOut (tgt := 1117) hx hb dl_33 (Or.inr (by rw [hkt]; decide)) (by decide) ?_
        exact next loC loM hC hM H locs (hIm t hC hM hi) S rfl rfl
      · obtain ⟨cse, o, hcs, ho, hto⟩ := lw_of_at (k := k) (by omega)
        have ek0 : ((nI k).toInt - 0).toNat = k := by rw [hkt]; omega
        refine lv_tableIn (off := o) (tgt := cse.1) hx hb dl_33 (by rw [hkt]; omega) (by rw [hkt]; omega) (by rw [ek0]; exact ho) hto ?_
        obtain ⟨v, hC', hM', r1, r2, hi1⟩ := hIs t hC hM k cse (fun j => xs (6 * t + j)) (by omega) hi hcs
        have m1 : hC.1.1 ≤ hC'.1.1 ∧ hC.1.2 ≤ hC'.1.2 := by
          obtain ⟨n1, hn1⟩ := ai_run_iff.mp r1
          exact (ai_ex_po n1 hn1).1
        have m2 : hM.1.1 ≤ hM'.1.1 ∧ hM.1.2 ≤ hM'.1.2 := by
          obtain ⟨n1, hn1⟩ := ai_run_iff.mp r2
          exact (ai_ex_po n1 hn1).1
        have hb2 := hIB (t + 1) hC' hM' (by omega) hi1
        refine lw_case hx hb hml hown hts hX hbl hbA hA hSt hle hL hcs hl S h00.1 h00.2 r1 r2 (by omega) (by omega) (fun loC' loM' H1 locs1 S1 e1 e2 => ?_)
        have := next loC' loM' hC' hM' H1 locs1 hi1 S1 e1 e2
        rw [show hC.1.1 + hM.1.1 + (hC'.1.1 - hC.1.1) + (hM'.1.1 - hM.1.1) = hC'.1.1 + hM'.1.1 by omega, show hC.1.2 + hM.1.2 + (hC'.1.2 - hC.1.2) + (hM'.1.2 - hM.1.2) = hC'.1.2 + hM'.1.2 by omega]
        exact this
