/-! lodgings: the class's rows, and which household it tries next -/
def fd_bc (x0 : Int32) : Int32 := ((((((((x0 - (((x0.toUInt32 >>> ((1 : Int32).toUInt32 &&& Int32.toUInt32 31)).toInt32) &&& (1431655765 : Int32))) &&& (858993459 : Int32)) + ((((x0 - (((x0.toUInt32 >>> ((1 : Int32).toUInt32 &&& Int32.toUInt32 31)).toInt32) &&& (1431655765 : Int32))).toUInt32 >>> ((2 : Int32).toUInt32 &&& Int32.toUInt32 31)).toInt32) &&& (858993459 : Int32))) + (((((x0 - (((x0.toUInt32 >>> ((1 : Int32).toUInt32 &&& Int32.toUInt32 31)).toInt32) &&& (1431655765 : Int32))) &&& (858993459 : Int32)) + ((((x0 - (((x0.toUInt32 >>> ((1 : Int32).toUInt32 &&& Int32.toUInt32 31)).toInt32) &&& (1431655765 : Int32))).toUInt32 >>> ((2 : Int32).toUInt32 &&& Int32.toUInt32 31)).toInt32) &&& (858993459 : Int32))).toUInt32 >>> ((4 : Int32).toUInt32 &&& Int32.toUInt32 31)).toInt32)) &&& (252645135 : Int32)) + (((((((x0 - (((x0.toUInt32 >>> ((1 : Int32).toUInt32 &&& Int32.toUInt32 31)).toInt32) &&& (1431655765 : Int32))) &&& (858993459 : Int32)) + ((((x0 - (((x0.toUInt32 >>> ((1 : Int32).toUInt32 &&& Int32.toUInt32 31)).toInt32) &&& (1431655765 : Int32))).toUInt32 >>> ((2 : Int32).toUInt32 &&& Int32.toUInt32 31)).toInt32) &&& (858993459 : Int32))) + (((((x0 - (((x0.toUInt32 >>> ((1 : Int32).toUInt32 &&& Int32.toUInt32 31)).toInt32) &&& (1431655765 : Int32))) &&& (858993459 : Int32)) + ((((x0 - (((x0.toUInt32 >>> ((1 : Int32).toUInt32 &&& Int32.toUInt32 31)).toInt32) &&& (1431655765 : Int32))).toUInt32 >>> ((2 : Int32).toUInt32 &&& Int32.toUInt32 31)).toInt32) &&& (858993459 : Int32))).toUInt32 >>> ((4 : Int32).toUInt32 &&& Int32.toUInt32 31)).toInt32)) &&& (252645135 : Int32)).toUInt32 >>> ((8 : Int32).toUInt32 &&& Int32.toUInt32 31)).toInt32)) + ((((((((x0 - (((x0.toUInt32 >>> ((1 : Int32).toUInt32 &&& Int32.toUInt32 31)).toInt32) &&& (1431655765 : Int32))) &&& (858993459 : Int32)) + ((((x0 - (((x0.toUInt32 >>> ((1 : Int32).toUInt32 &&& Int32.toUInt32 31)).toInt32) &&& (1431655765 : Int32))).toUInt32 >>> ((2 : Int32).toUInt32 &&& Int32.toUInt32 31)).toInt32) &&& (858993459 : Int32))) + (((((x0 - (((x0.toUInt32 >>> ((1 : Int32).toUInt32 &&& Int32.toUInt32 31)).toInt32) &&& (1431655765 : Int32))) &&& (858993459 : Int32)) + ((((x0 - (((x0.toUInt32 >>> ((1 : Int32).toUInt32 &&& Int32.toUInt32 31)).toInt32) &&& (1431655765 : Int32))).toUInt32 >>> ((2 : Int32).toUInt32 &&& Int32.toUInt32 31)).toInt32) &&& (858993459 : Int32))).toUInt32 >>> ((4 : Int32).toUInt32 &&& Int32.toUInt32 31)).toInt32)) &&& (252645135 : Int32)) + (((((((x0 - (((x0.toUInt32 >>> ((1 : Int32).toUInt32 &&& Int32.toUInt32 31)).toInt32) &&& (1431655765 : Int32))) &&& (858993459 : Int32)) + ((((x0 - (((x0.toUInt32 >>> ((1 : Int32).toUInt32 &&& Int32.toUInt32 31)).toInt32) &&& (1431655765 : Int32))).toUInt32 >>> ((2 : Int32).toUInt32 &&& Int32.toUInt32 31)).toInt32) &&& (858993459 : Int32))) + (((((x0 - (((x0.toUInt32 >>> ((1 : Int32).toUInt32 &&& Int32.toUInt32 31)).toInt32) &&& (1431655765 : Int32))) &&& (858993459 : Int32)) + ((((x0 - (((x0.toUInt32 >>> ((1 : Int32).toUInt32 &&& Int32.toUInt32 31)).toInt32) &&& (1431655765 : Int32))).toUInt32 >>> ((2 : Int32).toUInt32 &&& Int32.toUInt32 31)).toInt32) &&& (858993459 : Int32))).toUInt32 >>> ((4 : Int32).toUInt32 &&& Int32.toUInt32 31)).toInt32)) &&& (252645135 : Int32)).toUInt32 >>> ((8 : Int32).toUInt32 &&& Int32.toUInt32 31)).toInt32)).toUInt32 >>> ((16 : Int32).toUInt32 &&& Int32.toUInt32 31)).toInt32)) &&& (63 : Int32))
theorem fw_210 {d : Nat} {h : ai_Hp} {x : Int32} : ai_run d 210 0 [.int x] [] h = some (.inl (some (.int (fd_bc x))), h) := bq_210_0
theorem fd_lo : ∀ v, v < 1024 → v ≠ 0 → ∃ l, l < 10 ∧ fd_bc ((nI v &&& (-(nI v))) - (1 : Int32)) = nI l ∧ v.testBit l = true ∧ ∀ t, t < l → v.testBit t = false := by decide +kernel
theorem fd_bq : ∀ v, v < 1024 → ∃ q, q < 11 ∧ fd_bc (nI v) = nI q := by decide +kernel
theorem fd_p2 : ∀ h, h < 10 → (1 : Int32) <<< (nI h &&& 31) = nI (2 ^ h) := by decide +kernel
/-- a set of rooms -/
def fd_bs (x : Int32) (P : Nat → Prop) : Prop := ∃ v, v < 1024 ∧ x = nI v ∧ ∀ t, t < 10 → (v.testBit t = true ↔ P t)
def fd_T0 (A : fd_A) (wc : Bool) (o : Nat → Nat) (c4 : Int32) (r5 r8 : Nat → Int32) (c33 : Int32) (r35 r36 r37 r38 r39 r41 r42 : Nat → Int32) : Prop :=
  (A.1 ≤ 8 ∧ A.2.1 ≤ 10 ∧ c4 = nI A.1 ∧ c33 = nI A.2.1 ∧ fd_By A ∧ fd_pm A.1 o) ∧
  (∀ h, h < A.1 → (r5 h = nI (A.2.2.2.1 h) ∧ A.2.2.2.1 h ≤ 9) ∧ (r41 h = nI (A.2.2.1 h) ∧ A.2.2.1 h ≤ 99) ∧ r42 h = nI (o h) ∧ ∃ v, v < 256 ∧ r8 h = nI v ∧ ∀ k, k < 8 → v.testBit k = A.2.2.2.2.1 h k) ∧
  (∀ i j, i < j → j < A.1 → A.2.2.1 (o j) ≤ A.2.2.1 (o i)) ∧
  (∀ s t, s < t → t < A.2.1 → A.2.2.2.2.2.2.2 s ≤ A.2.2.2.2.2.2.2 t) ∧
  ∀ s, s < A.2.1 → (r35 s = nI (A.2.2.2.2.2.2.2 s) ∧ A.2.2.2.2.2.2.2 s ≤ 99) ∧ fd_bs (r36 s) (fun t => t < A.2.1 ∧ A.2.2.2.2.2.1 t = A.2.2.2.2.2.1 s) ∧ fd_bs (r37 s) (fun t => t < A.2.1 ∧ (wc = true → A.2.2.2.2.2.2.1 s ≤ A.2.2.2.2.2.2.1 t)) ∧ fd_bs (r38 s) (fun t => t < A.2.1 ∧ (wc = true → A.2.2.2.2.2.2.1 t ≤ A.2.2.2.2.2.2.1 s)) ∧ ∃ v, v < 1024 ∧ r39 s = nI v ∧ ∀ t, t < 10 → v.testBit t = true → fd_tn A wc s t
abbrev fd_T (A : fd_A) (wc : Bool) (o : Nat → Nat) (M : Nat → Nat → Int32) : Prop := fd_T0 A wc o (M 4 0) (M 5) (M 8) (M 33 2) (M 35) (M 36) (M 37) (M 38) (M 39) (M 41) (M 42)
/-- what a search leaves alone -/
def fd_K (M M' : Nat → Nat → Int32) : Prop := (∀ a, a ≠ 33 → a ≠ 40 → a ≠ 43 → a ≠ 44 → M' a = M a) ∧ ∀ j, j ≠ 14 → M' 33 j = M 33 j
theorem fd_K.rf {M : Nat → Nat → Int32} : fd_K M M := ⟨fun _ _ _ _ _ => rfl, fun _ _ => rfl⟩
theorem fd_K.tr {M M' M'' : Nat → Nat → Int32} (h : fd_K M M') (h' : fd_K M' M'') : fd_K M M'' := ⟨fun a a1 a2 a3 a4 => (h'.1 a a1 a2 a3 a4).trans (h.1 a a1 a2 a3 a4), fun j hj => (h'.2 j hj).trans (h.2 j hj)⟩
theorem fd_T.K {A : fd_A} {wc : Bool} {o : Nat → Nat} {M M' : Nat → Nat → Int32} (h : fd_T A wc o M) (k : fd_K M M') : fd_T A wc o M' := by
  unfold fd_T
  rw [k.1 4 (by decide) (by decide) (by decide) (by decide), k.1 5 (by decide) (by decide) (by decide) (by decide), k.1 8 (by decide) (by decide) (by decide) (by decide), k.1 35 (by decide) (by decide) (by decide) (by decide), k.1 36 (by decide) (by decide) (by decide) (by decide), k.1 37 (by decide) (by decide) (by decide) (by decide), k.1 38 (by decide) (by decide) (by decide) (by decide), k.1 39 (by decide) (by decide) (by decide) (by decide), k.1 41 (by decide) (by decide) (by decide) (by decide), k.1 42 (by decide) (by decide) (by decide) (by decide), k.2 2 (by decide)]
  exact h
/-- the rooms that are open, row dep -/
def fd_O (A : fd_A) (wc : Bool) (T dep : Nat) (c : Nat → Nat) (r40 : Nat → Int32) : Prop := ∀ k, k < A.1 → T.testBit k = true → fd_bs (r40 (8 * dep + k)) (fd_op A wc T c k)
/-- the sum of those that have theirs -/
def fd_pt (A : fd_A) (T : Nat) (c : Nat → Nat) : Nat := fd_su (fun h => if T.testBit h then 0 else fd_f A c h) A.1
theorem fd_pt_S {A : fd_A} {wc : Bool} {T : Nat} {c a o : Nat → Nat} (ho : fd_pm A.1 o) (ha : fd_Cp A wc T c a) : fd_S A a = fd_pt A T c + fd_su (fun j => if T.testBit (o j) then A.2.2.1 (o j) * A.2.2.2.2.2.2.2 (a (o j)) else 0) A.1 := by
  have h1 := ho.2 (fun h => if T.testBit h then A.2.2.1 h * A.2.2.2.2.2.2.2 (a h) else 0)
  rw [h1]
  unfold fd_pt fd_S
  rw [← fd_su_ad]
  exact fd_su_cg A.1 (fun i hi => by
    cases ht : T.testBit i with
    | true => rw [if_pos rfl, if_pos rfl, Nat.zero_add]; rfl
    | false => rw [if_neg (by decide), if_neg (by decide), Nat.add_zero]; unfold fd_f; rw [ha.2 i hi ht])
theorem fd_T.W {A : fd_A} {wc : Bool} {o : Nat → Nat} {M : Nat → Nat → Int32} (h : fd_T A wc o M) {k s : Nat} (hk : k < A.1) (hs : s < A.2.1) : A.2.2.1 k * A.2.2.2.2.2.2.2 s ≤ 9801 := Nat.mul_le_mul (h.2.1 k hk).2.1.2 (h.2.2.2.2 s hs).1.2
theorem fw_26 {d : Nat} {al : Nat × Nat} {kl h v T : Nat} {A : fd_A} {wc : Bool} {o : Nat → Nat} {M : Nat → Nat → Int32} (hz : fd_T A wc o M) (hh : h < A.1) (hv : v < 1024) (hT : T < 256) {v4 : Value} : ∃ q, q < 1000 ∧ ai_run (d + 1) 26 0 [.ref 33, .int (nI h), .int (nI v), .int (nI T), v4] [] (hC al kl M) = some (.inl (some (.int (nI q))), hC al kl M) := by
  obtain ⟨q, q1, q2⟩ := fd_bq v hv
  obtain ⟨-, -, -, b, b1, b2, -⟩ := hz.2.1 h hh
  obtain ⟨q', q3, q4⟩ := fd_bq (b &&& T) (Nat.lt_of_le_of_lt (Nat.and_le_left) (by omega))
  have hn := hz.1.1
  refine ⟨(10 - q) * 8 + q', by omega, ?_⟩
  rw [bq_26_0, fw_210, fb_s, bq_26_1, fi_in (by omega), decide_eq_true (by omega), cond_true, nI_clamp (by omega), b2, fd_an, fw_210, fb_s, bq_26_2, q2, q4, show (10 : Int32) = nI 10 from rfl, show (8 : Int32) = nI 8 from rfl, fi_sub (by omega), pk_mul, nI_add]
theorem fw_143 {d : Nat} {h : ai_Hp} {v : Nat} (hv : v < 1024) (h0 : v ≠ 0) : ∃ l, l < 10 ∧ ai_run (d + 1) 143 0 [.int (nI v)] [] h = some (.inl (some (.int (nI l))), h) ∧ v.testBit l = true ∧ ∀ t, t < l → v.testBit t = false := by
  obtain ⟨l, l1, l2, l3, l4⟩ := fd_lo v hv h0
  exact ⟨l, l1, by rw [bq_143_0, fw_210, fb_s, bq_143_1, l2], l3, l4⟩
theorem fl_27w {d : Nat} {al : Nat × Nat} {kl R U : Nat} {M : Nat → Nat → Int32} (hR : M 33 2 = nI R) (hR' : R ≤ 10) (hU : U < 1024) {x1 x3 x5 x6 : Int32} : ∀ (m s : Nat), s + m = R → ∃ s', s ≤ s' ∧ s' ≤ R ∧ (∀ t, s ≤ t → t < s' → U.testBit t = false) ∧ (s' < R → U.testBit s' = true) ∧ ai_run d 27 2 [.ref 33, .int x1, .int (nI U), .int x3, .int (nI s), .int x5, .int x6] [] (hC al kl M) = ai_run d 27 3 [.ref 33, .int x1, .int (nI U), .int x3, .int (nI s'), .int x5, .int x6] [] (hC al kl M)
  | 0, s, h => ⟨s, Nat.le_refl _, by omega, fun t h1 h2 => by omega, fun h1 => by omega, by
    have e : s = R := by omega
    rw [bq_27_2, hR, e, if_pos Int32.le_rfl]⟩
  | m + 1, s, h => by
    cases ht : U.testBit s with
    | true =>
      refine ⟨s, Nat.le_refl _, by omega, fun t h1 h2 => by omega, fun _ => ht, ?_⟩
      rw [bq_27_2, hR, if_neg (nI_ge (by omega) (by omega)), if_neg (fun z => by rw [fd_t0 hU (by omega), ht] at z; exact absurd z (by decide))]
    | false =>
      obtain ⟨s', p1, p2, p3, p4, p5⟩ := fl_27w (d := d) (al := al) (kl := kl) (x1 := x1) (x3 := x3) (x5 := x5) (x6 := x6) hR hR' hU m (s + 1) (by omega)
      refine ⟨s', by omega, p2, fun t h1 h2 => ?_, p4, ?_⟩
      · by_cases e : t = s
        · rw [e]; exact ht
        · exact p3 t (by omega) h2
      · rw [bq_27_2, hR, if_neg (nI_ge (by omega) (by omega)), if_pos ((fd_t0 hU (by omega)).mpr ht), nI_1, p5]
theorem fl_27 {d : Nat} {al : Nat × Nat} {kl T U : Nat} {A : fd_A} {wc : Bool} {o : Nat → Nat} {M : Nat → Nat → Int32} (hz : fd_T A wc o M) (hT : T < 256) (hU : U < 1024) : ∀ (m i acc s : Nat) (v6 : Value), i + m = A.1 → acc + 9801 * m ≤ 1000000 → s ≤ A.2.1 → ∃ r, r ≤ 1000000 ∧ ai_run d 27 1 [.ref 33, .int (nI T), .int (nI U), .int (nI acc), .int (nI s), .int (nI i), v6] [] (hC al kl M) = some (.inl (some (.int (nI r))), hC al kl M) ∧ ∀ x : Nat → Nat, (∀ j, i ≤ j → j < A.1 → T.testBit (o j) = true → U.testBit (x j) = true ∧ x j < A.2.1 ∧ s ≤ x j) → (∀ j j', i ≤ j → j < j' → j' < A.1 → T.testBit (o j) = true → T.testBit (o j') = true → x j ≠ x j') → r ≤ acc + fd_st (fun j => if T.testBit (o j) then A.2.2.1 (o j) * A.2.2.2.2.2.2.2 (x j) else 0) i m
  | 0, i, acc, s, v6, hi, hb, hs => by
    have e : i = A.1 := by omega
    exact ⟨acc, by omega, by rw [bq_27_1, hz.1.2.2.1, e, if_pos Int32.le_rfl, bq_27_6], fun x _ _ => Nat.le_add_right _ _⟩
  | m + 1, i, acc, s, v6, hi, hb, hs => by
    obtain ⟨⟨z1, z2, z3, z4, zy, zo⟩, zh, zw, zk, zr⟩ := id hz
    have hbm : acc + (9801 * m + 9801) ≤ 1000000 := hb
    clear hb
    have hoi := zo.1 i (by omega)
    have e42 : M 42 i = nI (o i) := (zh i (by omega)).2.2.1
    have i8 : ai_in (nI i) 8 = true := by rw [fi_in (by omega)]; exact decide_eq_true (by omega)
    have i8o : ai_in (nI (o i)) 8 = true := by rw [fi_in (by omega)]; exact decide_eq_true (by omega)
    cases ht : T.testBit (o i) with
    | false =>
      obtain ⟨r, r1, r2, r3⟩ := fl_27 (d := d) (al := al) (kl := kl) hz hT hU m (i + 1) acc s ai_un (by omega) (Nat.le_trans (by omega) hbm) hs
      refine ⟨r, r1, ?_, fun x h1 h2 => ?_⟩
      · rw [bq_27_1, z3, if_neg (nI_ge (by omega) (by omega)), i8, cond_true, nI_clamp (by omega), e42, if_neg (fun z => by rw [fd_t1 (by omega) (by omega), ht] at z; exact absurd z (by decide)), bq_27_5, nI_1, r2]
      · have := r3 x (fun j a b => h1 j (by omega) b) (fun j j' a b => h2 j j' (by omega) b)
        show r ≤ acc + ((if T.testBit (o i) = true then A.2.2.1 (o i) * A.2.2.2.2.2.2.2 (x i) else 0) + fd_st _ (i + 1) m)
        rw [ht, if_neg (by decide)]
        omega
    | true =>
      obtain ⟨s', p1, p2, p3, p4, p5⟩ := fl_27w (d := d) (al := al) (kl := kl) (x1 := nI T) (x3 := nI acc) (x5 := nI i) (x6 := nI (o i)) z4 z2 hU (A.2.1 - s) s (by omega)
      have run1 : ai_run d 27 1 [.ref 33, .int (nI T), .int (nI U), .int (nI acc), .int (nI s), .int (nI i), v6] [] (hC al kl M) = ai_run d 27 3 [.ref 33, .int (nI T), .int (nI U), .int (nI acc), .int (nI s'), .int (nI i), .int (nI (o i))] [] (hC al kl M) := by
        rw [bq_27_1, z3, if_neg (nI_ge (by omega) (by omega)), i8, cond_true, nI_clamp (by omega), e42, if_pos ((fd_t1 (by omega) (by omega)).mpr ht), p5]
      have hlow : ∀ x : Nat → Nat, (∀ j, i ≤ j → j < A.1 → T.testBit (o j) = true → U.testBit (x j) = true ∧ x j < A.2.1 ∧ s ≤ x j) → ∀ j, i ≤ j → j < A.1 → T.testBit (o j) = true → s' ≤ x j := fun x h1 j a b c => by
        obtain ⟨u1, u2, u3⟩ := h1 j a b c
        by_cases e : s' ≤ x j
        · exact e
        · rw [p3 (x j) u3 (by omega)] at u1; exact absurd u1 (by decide)
      by_cases hR : s' < A.2.1
      · have hW := hz.W hoi hR
        obtain ⟨r, r1, r2, r3⟩ := fl_27 (d := d) (al := al) (kl := kl) hz hT hU m (i + 1) (acc + A.2.2.1 (o i) * A.2.2.2.2.2.2.2 s') (s' + 1) (ai_un) (by omega) (Nat.le_trans (by omega) hbm) (by omega)
        refine ⟨r, r1, ?_, fun x h1 h2 => ?_⟩
        · rw [run1, bq_27_3, z4, if_pos (nI_lt hR (by omega)), bq_27_4, i8o, cond_true, fi_in (by omega), decide_eq_true (by omega), cond_true, nI_clamp (by omega), nI_clamp (by omega), (zh _ hoi).2.1.1, (zr s' hR).1.1, pk_mul, nI_add, nI_1, bq_27_5, nI_1, r2]
        · have hl := hlow x h1
          have hxi := hl i (by omega) (by omega) ht
          have hki : A.2.2.2.2.2.2.2 s' ≤ A.2.2.2.2.2.2.2 (x i) := by
            by_cases e : s' = x i
            · rw [e]; exact Nat.le_refl _
            · exact zk s' (x i) (by omega) (h1 i (by omega) (by omega) ht).2.1
          have g1 := r3 (fun j => fd_sw s' (x i) (x j)) (fun j a b c => by
            obtain ⟨u1, u2, u3⟩ := h1 j (by omega) b c
            have hne := h2 i j (by omega) (by omega) b ht c
            obtain ⟨w1, w2, w3⟩ := h1 i (by omega) (by omega) ht
            have hlj := hl j (by omega) b c
            by_cases e : x j = s'
            · have : fd_sw s' (x i) (x j) = x i := by unfold fd_sw; rw [if_pos e]
              rw [this]
              exact ⟨w1, w2, by omega⟩
            · rw [fd_sw_n e (fun z => hne z.symm)]
              exact ⟨u1, u2, by omega⟩) (fun j j' a b c e1 e2 z => h2 j j' (by omega) b c e1 e2 (fd_sw_inj z))
          have g2 := fd_ex (w := fun j => A.2.2.1 (o j)) (x := x) (P := fun j => T.testBit (o j)) (w0 := A.2.2.1 (o i)) hki m (i + 1) (fun j a b c => ⟨zw i j (by omega) (by omega), fun z => h2 i j (by omega) (by omega) (by omega) ht c z.symm⟩) (fun j j' a b c => h2 j j' (by omega) b (by omega))
          show r ≤ acc + ((if T.testBit (o i) = true then A.2.2.1 (o i) * A.2.2.2.2.2.2.2 (x i) else 0) + fd_st _ (i + 1) m)
          rw [ht, if_pos rfl]
          have hmul : A.2.2.1 (o i) * A.2.2.2.2.2.2.2 s' ≤ A.2.2.1 (o i) * A.2.2.2.2.2.2.2 (x i) := Nat.mul_le_mul_left _ hki
          rcases g2 with g2 | ⟨-, g2⟩ <;> omega
      · refine ⟨1000000, Nat.le_refl _, ?_, fun x h1 h2 => ?_⟩
        · rw [run1, bq_27_3, z4, if_neg (nI_nlt (by omega) (by omega))]; rfl
        · have := hlow x h1 i (by omega) (by omega) ht
          exact absurd (h1 i (by omega) (by omega) ht).2.1 (by omega)
theorem fl_25e {d : Nat} {al : Nat × Nat} {kl : Nat} {M : Nat → Nat → Int32} {x4 : Int32} {v0 v1 v2 v3 v5 v6 v7 v8 v9 v10 v11 : Value} : ai_run d 25 8 [v0, v1, v2, v3, .int x4, v5, v6, v7, v8, v9, v10, v11] [] (hC al kl M) = some (.inl (some (.int (-1))), hC al kl M) ∧ ai_run d 25 9 [v0, v1, v2, v3, .int x4, v5, v6, v7, v8, v9, v10, v11] [] (hC al kl M) = some (.inl (some (.int x4)), hC al kl M) := by
  constructor
  · rw [bq_25_8, bq_25_10, if_neg (by decide), bq_25_12]
  · rw [bq_25_9, bq_25_10, if_pos rfl, bq_25_11, bq_25_12]
/-- which household is tried next -/
theorem fl_25 {d : Nat} {al : Nat × Nat} {kl T dep lim : Nat} {A : fd_A} {wc : Bool} {o c : Nat → Nat} {M : Nat → Nat → Int32} (hz : fd_T A wc o M) (hT : T < 256) (hdep : dep < 8) (hO : fd_O A wc T dep c (M 40)) (hne : ∃ k, k < A.1 ∧ T.testBit k = true) (hl : M 33 14 = nI lim) (hl' : lim ≤ 1000001) (hpt : fd_pt A T c ≤ 100000) : ∀ (m i an la : Nat) (x4 x5 : Int32) (v9 v10 v11 : Value), i + m = A.1 → an < 1024 → (∀ j, j < i → T.testBit (o j) = true → ∀ s, fd_op A wc T c (o j) s → an.testBit s = true) → la ≤ 100000 + 9801 * i → (∀ a, fd_Cp A wc T c a → la ≤ fd_pt A T c + fd_su (fun j => if T.testBit (o j) then A.2.2.1 (o j) * A.2.2.2.2.2.2.2 (a (o j)) else 0) i) → ((x5 = -1 ∧ ∀ j, j < i → T.testBit (o j) = false) ∨ ∃ h, h < A.1 ∧ T.testBit h = true ∧ x4 = nI h) → ∃ v, ai_run (d + 2) 25 1 [.ref 33, .int (nI dep), .int (nI T), .int (nI (fd_pt A T c)), .int x4, .int x5, .int (nI an), .int (nI la), .int (nI i), v9, v10, v11] [] (hC al kl M) = some (.inl (some (.int v)), hC al kl M) ∧ ((v = -1 ∧ ∀ a, fd_Cp A wc T c a → lim ≤ fd_S A a) ∨ ∃ h, h < A.1 ∧ T.testBit h = true ∧ v = nI h)
  | 0, i, an, la, x4, x5, v9, v10, v11, hi, han, hop, hb, hla, hx => by
    obtain ⟨⟨z1, z2, z3, z4, zy, zo⟩, zh, zw, zk, zr⟩ := id hz
    have e : i = A.1 := by omega
    subst e
    have hx4 : ∃ h, h < A.1 ∧ T.testBit h = true ∧ x4 = nI h := by
      rcases hx with ⟨-, h2⟩ | h
      · obtain ⟨k, k1, k2⟩ := hne
        obtain ⟨j, j1, j2⟩ := zo.on k1
        have := h2 j j1
        rw [j2, k2] at this
        exact absurd this (by decide)
      · exact h
    have hS : ∀ a, fd_Cp A wc T c a → la ≤ fd_S A a := fun a ha => by rw [fd_pt_S zo ha]; exact hla a ha
    have hlb : la < 2 ^ 31 := by omega
    rw [bq_25_1, z3, if_pos Int32.le_rfl, bq_25_6, hl]
    by_cases h1 : lim ≤ la
    · exact ⟨-1, by rw [if_pos (nI_le h1 hlb), fl_25e.1], Or.inl ⟨rfl, fun a ha => Nat.le_trans h1 (hS a ha)⟩⟩
    · obtain ⟨r, r1, r2, r3⟩ := fl_27 (d := d + 1) (al := al) (kl := kl) (U := an) hz hT han A.1 0 0 0 ai_un (by omega) (by omega) (Nat.zero_le _)
      have r2' : ai_run (d + 1) 27 0 [.ref 33, .int (nI T), .int (nI an), ai_un, ai_un, ai_un, ai_un] [] (hC al kl M) = some (.inl (some (.int (nI r))), hC al kl M) := by rw [bq_27_0]; exact r2
      rw [if_neg (nI_ge (by omega) (by omega)), r2', fb_s, bq_25_7, hl, nI_add]
      by_cases h2 : fd_pt A T c + r < lim
      · exact ⟨x4, by rw [if_pos (nI_lt h2 (by omega)), fl_25e.2], Or.inr hx4⟩
      · refine ⟨-1, by rw [if_neg (nI_nlt (by omega) (by omega)), fl_25e.1], Or.inl ⟨rfl, fun a ha => ?_⟩⟩
        have g := r3 (fun j => a (o j)) (fun j _ j2 j3 => ⟨hop j j2 j3 _ (ha.op (zo.1 j j2) j3), (ha.1 _ (zo.1 j j2)).1, Nat.zero_le _⟩) (fun j j' _ j2 j3 _ _ z => by
          have hne' : o j ≠ o j' := fun e => by have := zo.inj (by omega) j3 e; omega
          exact (fd_cb_iff.mp ((ha.1 _ (zo.1 j' j3)).2 _ (zo.1 j (by omega)) hne')).1 z.symm)
        have g2 := fd_st_su (f := fun j => if T.testBit (o j) then A.2.2.1 (o j) * A.2.2.2.2.2.2.2 (a (o j)) else 0) A.1 0
        have g3 : fd_su (fun j => if T.testBit (o j) then A.2.2.1 (o j) * A.2.2.2.2.2.2.2 (a (o j)) else 0) 0 = 0 := rfl
        rw [g3, Nat.zero_add, Nat.zero_add] at g2
        rw [Nat.zero_add, g2] at g
        rw [fd_pt_S zo ha]
        exact Nat.le_trans (Nat.not_lt.mp h2) (Nat.add_le_add_left g _)
  | m + 1, i, an, la, x4, x5, v9, v10, v11, hi, han, hop, hb, hla, hx => by
    obtain ⟨⟨z1, z2, z3, z4, zy, zo⟩, zh, zw, zk, zr⟩ := id hz
    have hoi := zo.1 i (by omega)
    have e42 : M 42 i = nI (o i) := (zh i (by omega)).2.2.1
    have i8 : ai_in (nI i) 8 = true := by rw [fi_in (by omega)]; exact decide_eq_true (by omega)
    have i8o : ai_in (nI (o i)) 8 = true := by rw [fi_in (by omega)]; exact decide_eq_true (by omega)
    have esu : ∀ a : Nat → Nat, fd_su (fun j => if T.testBit (o j) then A.2.2.1 (o j) * A.2.2.2.2.2.2.2 (a (o j)) else 0) (i + 1) = fd_su (fun j => if T.testBit (o j) then A.2.2.1 (o j) * A.2.2.2.2.2.2.2 (a (o j)) else 0) i + (if T.testBit (o i) then A.2.2.1 (o i) * A.2.2.2.2.2.2.2 (a (o i)) else 0) := fun _ => rfl
    cases ht : T.testBit (o i) with
    | false =>
      obtain ⟨v, p1, p2⟩ := fl_25 (d := d) (al := al) (kl := kl) hz hT hdep hO hne hl hl' hpt m (i + 1) an la x4 x5 ai_un ai_un ai_un (by omega) han (fun j hj hj' => by
        by_cases e : j = i
        · rw [e, ht] at hj'; exact absurd hj' (by decide)
        · exact hop j (by omega) hj') (by omega) (fun a ha => by
        rw [esu a, ht, if_neg (by decide)]
        exact hla a ha) (by
        rcases hx with ⟨h1, h2⟩ | h
        · exact Or.inl ⟨h1, fun j hj => by
            by_cases e : j = i
            · rw [e]; exact ht
            · exact h2 j (by omega)⟩
        · exact Or.inr h)
      refine ⟨v, ?_, p2⟩
      rw [bq_25_1, z3, if_neg (nI_ge (by omega) (by omega)), i8, cond_true, nI_clamp (n := i) (by omega), e42, if_neg (fun z => by rw [fd_t1 (by omega) (by omega), ht] at z; exact absurd z (by decide)), bq_25_5, nI_1, p1]
    | true =>
      obtain ⟨v, v1, v2, v3⟩ := hO (o i) hoi ht
      have eix : nI dep * 8 + nI (o i) = nI (8 * dep + o i) := by rw [show (8 : Int32) = nI 8 from rfl, pk_mul, nI_add, Nat.mul_comm]
      have i72 : ai_in (nI (8 * dep + o i)) 72 = true := by rw [fi_in (by omega)]; exact decide_eq_true (by omega)
      rw [bq_25_1, z3, if_neg (nI_ge (by omega) (by omega)), i8, cond_true, nI_clamp (n := i) (by omega), e42, if_pos ((fd_t1 (by omega) (by omega)).mpr ht), eix, i72, cond_true, nI_clamp (n := 8 * dep + o i) (by omega), v2]
      by_cases hv : v = 0
      · refine ⟨-1, by rw [hv, if_pos (show nI 0 = 0 from rfl)], Or.inl ⟨rfl, fun a ha => ?_⟩⟩
        exfalso
        have h1 := ha.op hoi ht
        have h2 := (v3 _ (by have := h1.1; omega)).mpr h1
        rw [hv, Nat.zero_testBit] at h2
        exact absurd h2 (by decide)
      · obtain ⟨l, l1, l2, l3, l4⟩ := fw_143 (d := d) (h := hC al kl M) v1 hv
        obtain ⟨q, q1, q2⟩ := fw_26 (d := d) (al := al) (kl := kl) (v4 := ai_un) hz hoi v1 hT
        have hl3 := (v3 l l1).mp l3
        have hW := hz.W hoi hl3.1
        have hmin : ∀ a, fd_Cp A wc T c a → A.2.2.1 (o i) * A.2.2.2.2.2.2.2 l ≤ A.2.2.1 (o i) * A.2.2.2.2.2.2.2 (a (o i)) := fun a ha => by
          have h1 := ha.op hoi ht
          have h2 := (v3 _ (by have := h1.1; omega)).mpr h1
          apply Nat.mul_le_mul_left
          by_cases e : l = a (o i)
          · rw [e]; exact Nat.le_refl _
          · rcases Nat.lt_or_ge (a (o i)) l with g | g
            · rw [l4 _ g] at h2; exact absurd h2 (by decide)
            · exact zk _ _ (by omega) h1.1
        have hor : an ||| v < 1024 := Nat.or_lt_two_pow (n := 10) han v1
        have key : ∀ y4 y5 : Int32, (∃ h, h < A.1 ∧ T.testBit h = true ∧ y4 = nI h) → ∀ v9 v10 v11 : Value, ∃ w, ai_run (d + 2) 25 5 [.ref 33, .int (nI dep), .int (nI T), .int (nI (fd_pt A T c)), .int y4, .int y5, .int (nI (an ||| v)), .int (nI (la + A.2.2.1 (o i) * A.2.2.2.2.2.2.2 l)), .int (nI i), v9, v10, v11] [] (hC al kl M) = some (.inl (some (.int w)), hC al kl M) ∧ ((w = -1 ∧ ∀ a, fd_Cp A wc T c a → lim ≤ fd_S A a) ∨ ∃ h, h < A.1 ∧ T.testBit h = true ∧ w = nI h) := fun y4 y5 hy v9 v10 v11 => by
          obtain ⟨w, p1, p2⟩ := fl_25 (d := d) (al := al) (kl := kl) hz hT hdep hO hne hl hl' hpt m (i + 1) (an ||| v) (la + A.2.2.1 (o i) * A.2.2.2.2.2.2.2 l) y4 y5 ai_un ai_un ai_un (by omega) hor (fun j hj hj' s hs => by
            rw [Nat.testBit_or]
            by_cases e : j = i
            · rw [e] at hs
              rw [(v3 s (by have := hs.1; omega)).mpr hs, Bool.or_true]
            · rw [hop j (by omega) hj' s hs, Bool.true_or]) (by omega) (fun a ha => by
            rw [esu a, ht, if_pos rfl, ← Nat.add_assoc]
            exact Nat.add_le_add (hla a ha) (hmin a ha)) (Or.inr hy)
          exact ⟨w, by rw [bq_25_5, nI_1, p1], p2⟩
        rw [if_neg (fun z : nI v = 0 => hv ((nI_eq (b := 0) (by omega) (by omega)).mp z)), bq_25_2, i8o, cond_true, l2, fb_s, bq_25_3, fi_in (by omega), decide_eq_true l1, cond_true, q2, fb_s, bq_25_4, fd_or, nI_clamp (n := o i) (by omega), nI_clamp (n := l) (by omega), (zh _ hoi).2.1.1, (zr l hl3.1).1.1, pk_mul, nI_add]
        rcases hx with ⟨h1, h2⟩ | h
        · rw [h1, if_neg (fun z => by
            have : (0 : Int32) ≤ nI q := nI_le (a := 0) (Nat.zero_le _) (by omega)
            exact absurd (Int32.le_trans this z) (by decide))]
          exact key _ _ ⟨o i, hoi, ht, rfl⟩ _ _ _
        · by_cases hq : nI q ≤ x5
          · rw [if_pos hq]; exact key _ _ h _ _ _
          · rw [if_neg hq]; exact key _ _ ⟨o i, hoi, ht, rfl⟩ _ _ _
theorem fw_25 {d : Nat} {al : Nat × Nat} {kl T dep lim : Nat} {A : fd_A} {wc : Bool} {o c : Nat → Nat} {M : Nat → Nat → Int32} (hz : fd_T A wc o M) (hT : T < 256) (hdep : dep < 8) (hO : fd_O A wc T dep c (M 40)) (hne : ∃ k, k < A.1 ∧ T.testBit k = true) (hl : M 33 14 = nI lim) (hl' : lim ≤ 1000001) (hpt : fd_pt A T c ≤ 100000) : ∃ v, ai_run (d + 2) 25 0 [.ref 33, .int (nI dep), .int (nI T), .int (nI (fd_pt A T c)), ai_un, ai_un, ai_un, ai_un, ai_un, ai_un, ai_un, ai_un] [] (hC al kl M) = some (.inl (some (.int v)), hC al kl M) ∧ ((v = -1 ∧ ∀ a, fd_Cp A wc T c a → lim ≤ fd_S A a) ∨ ∃ h, h < A.1 ∧ T.testBit h = true ∧ v = nI h) := by
  rw [bq_25_0]
  exact fl_25 hz hT hdep hO hne hl hl' hpt A.1 0 0 (fd_pt A T c) (-1) (-1) ai_un ai_un ai_un (by omega) (by omega) (fun j hj => absurd hj (Nat.not_lt_zero _)) (by omega) (fun a ha => Nat.le_add_right _ _) (Or.inl ⟨rfl, fun j hj => absurd hj (Nat.not_lt_zero _)⟩)
