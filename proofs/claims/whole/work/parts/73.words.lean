/-! ordinances: what the readers ask of a token -/
theorem fp_cd_in : ∀ j, j < 10 → (∃ c : Nat, c ≤ 260 ∧ fp_cd j = nI c ∧ fp_sg c = false) := by
  have : ∀ j, j < 10 → fp_cd j = nI (([0, 1, 2, 3, 4, 5, 257, 258, 259, 260] : List Nat).getD j 256) ∧ ([0, 1, 2, 3, 4, 5, 257, 258, 259, 260] : List Nat).getD j 256 ≤ 260 ∧ fp_sg (([0, 1, 2, 3, 4, 5, 257, 258, 259, 260] : List Nat).getD j 256) = false := by decide
  exact fun j hj => ⟨_, (this j hj).2.1, (this j hj).1, (this j hj).2.2⟩
theorem fp_sg_le {c : Nat} (h : fp_sg c = true) : 42 ≤ c ∧ c ≤ 62 := by
  have := of_decide_eq_true h
  omega
theorem fp_m2 {n : Nat} (h : n < 2 ^ 31) : ¬ nI n = -2 := fun q => by
  have := nI_pos' h
  rw [q] at this
  exact absurd this (by decide)
theorem fp_R.word {τ so sg nu : Int32} {w : Int64} (h : fp_R τ so sg nu w) {j : Nat} (hj : j < 10) : (so = 2 ∧ w = lN (fp_h j)) ↔ τ = fp_cd j := by
  obtain ⟨c, c1, c2, c3⟩ := fp_cd_in j hj
  rcases h with ⟨h1, h2⟩ | ⟨h1, h2⟩ | ⟨x, h1, h2, h3, h4⟩ | ⟨m, h1, h2, h3, h4⟩ | ⟨h1, h2, h3⟩
  · rw [h1, h2, c2]
    exact ⟨fun z => absurd z.1 (by decide), fun z => absurd z.symm (fi_m1 (by omega))⟩
  · rw [h1, h2, c2]
    exact ⟨fun z => absurd z.1 (by decide), fun z => absurd z.symm (fp_m2 (by omega))⟩
  · rw [h2, h3, c2]
    have := fp_sg_le h1
    refine ⟨fun z => absurd z.1 (by decide), fun z => ?_⟩
    have e := (nI_eq (by omega) (by omega)).mp z
    rw [e, c3] at h1
    exact absurd h1 (by decide)
  · rw [h2, h3, c2]
    refine ⟨fun z => absurd z.1 (by decide), fun z => ?_⟩
    have e := (nI_eq (by omega) (by omega)).mp z
    omega
  · rw [h2]
    exact ⟨fun z => (h3 j hj).mpr z.2, fun z => ⟨rfl, (h3 j hj).mp z⟩⟩
theorem fp_R.sign {τ so sg nu : Int32} {w : Int64} (h : fp_R τ so sg nu w) {c : Nat} (hc : fp_sg c = true) : (so = 4 ∧ sg = nI c) ↔ τ = nI c := by
  have hcl := fp_sg_le hc
  rcases h with ⟨h1, h2⟩ | ⟨h1, h2⟩ | ⟨x, h1, h2, h3, h4⟩ | ⟨m, h1, h2, h3, h4⟩ | ⟨h1, h2, h3⟩
  · rw [h1, h2]
    exact ⟨fun z => absurd z.1 (by decide), fun z => absurd z.symm (fi_m1 (by omega))⟩
  · rw [h1, h2]
    exact ⟨fun z => absurd z.1 (by decide), fun z => absurd z.symm (fp_m2 (by omega))⟩
  · rw [h2, h3, h4]
    exact ⟨fun z => z.2, fun z => ⟨rfl, z⟩⟩
  · rw [h2, h3]
    refine ⟨fun z => absurd z.1 (by decide), fun z => ?_⟩
    have e := (nI_eq (by omega) (by omega)).mp z
    omega
  · rw [h2]
    refine ⟨fun z => absurd z.1 (by decide), fun z => ?_⟩
    rcases h1 with e | ⟨j, hj, e⟩
    · rw [e] at z
      have := (nI_eq (a := 256) (b := c) (by omega) (by omega)).mp z
      omega
    · obtain ⟨x, x1, x2, x3⟩ := fp_cd_in j hj
      rw [e, x2] at z
      have := (nI_eq (by omega) (by omega)).mp z
      rw [this, hc] at x3
      exact absurd x3 (by decide)
theorem fp_R.num {τ so sg nu : Int32} {w : Int64} (h : fp_R τ so sg nu w) : (so = 3 ∧ ∃ m : Nat, m ≤ 999 ∧ τ = nI (1000 + m) ∧ nu = nI m) ∨ (so ≠ 3 ∧ τ < 1000) := by
  rcases h with ⟨h1, h2⟩ | ⟨h1, h2⟩ | ⟨x, h1, h2, h3, h4⟩ | ⟨m, h1, h2, h3, h4⟩ | ⟨h1, h2, h3⟩
  · rw [h1, h2]; exact Or.inr ⟨by decide, by decide⟩
  · rw [h1, h2]; exact Or.inr ⟨by decide, by decide⟩
  · have := fp_sg_le h1
    rw [h2, h3]; exact Or.inr ⟨by decide, fj_gt (c := 1000) (n := 1000) rfl (by omega) (by omega)⟩
  · exact Or.inl ⟨h3, m, h1, h2, h4⟩
  · refine Or.inr ⟨by rw [h2]; decide, ?_⟩
    rcases h1 with e | ⟨j, hj, e⟩
    · rw [e]; decide
    · obtain ⟨x, x1, x2, x3⟩ := fp_cd_in j hj
      rw [e, x2]; exact fj_gt (c := 1000) (n := 1000) rfl (by omega) (by omega)
theorem fp_R.fin {τ so sg nu : Int32} {w : Int64} (h : fp_R τ so sg nu w) : so = 1 ↔ τ = -1 := by
  rcases h with ⟨h1, h2⟩ | ⟨h1, h2⟩ | ⟨x, h1, h2, h3, h4⟩ | ⟨m, h1, h2, h3, h4⟩ | ⟨h1, h2, h3⟩
  · rw [h1, h2]; exact ⟨fun _ => rfl, fun _ => rfl⟩
  · rw [h1, h2]; exact ⟨fun z => absurd z (by decide), fun z => absurd z (by decide)⟩
  · have := fp_sg_le h1
    rw [h2, h3]; exact ⟨fun z => absurd z (by decide), fun z => absurd z (fi_m1 (by omega))⟩
  · rw [h2, h3]; exact ⟨fun z => absurd z (by decide), fun z => absurd z (fi_m1 (by omega))⟩
  · rw [h2]
    refine ⟨fun z => absurd z (by decide), fun z => ?_⟩
    rcases h1 with e | ⟨j, hj, e⟩
    · rw [e] at z; exact absurd z (by decide)
    · obtain ⟨x, x1, x2, x3⟩ := fp_cd_in j hj
      rw [e, x2] at z; exact absurd z (fi_m1 (by omega))
/-- a name, a word of another kind, or no word -/
theorem fp_R.name {τ so sg nu : Int32} {w : Int64} (h : fp_R τ so sg nu w) : (∃ x : Nat, x ≤ 5 ∧ τ = nI x) ∨ (so = 2 ∧ τ = 256) ∨ (so = 2 ∧ ∃ j, 6 ≤ j ∧ j < 10 ∧ τ = fp_cd j) ∨ (so ≠ 2 ∧ (τ < 0 ∨ 5 < τ) ∧ τ ≠ 256) := by
  rcases h with ⟨h1, h2⟩ | ⟨h1, h2⟩ | ⟨x, h1, h2, h3, h4⟩ | ⟨m, h1, h2, h3, h4⟩ | ⟨h1, h2, h3⟩
  · rw [h1, h2]; exact Or.inr (Or.inr (Or.inr ⟨by decide, Or.inl (by decide), by decide⟩))
  · rw [h1, h2]; exact Or.inr (Or.inr (Or.inr ⟨by decide, Or.inl (by decide), by decide⟩))
  · have := fp_sg_le h1
    rw [h2, h3]; exact Or.inr (Or.inr (Or.inr ⟨by decide, Or.inr (fj_lt (c := 5) (n := 5) rfl (by omega) (by omega)), fj_ne (c := 256) (n := 256) rfl (by omega) (by omega) (by omega)⟩))
  · rw [h2, h3]; exact Or.inr (Or.inr (Or.inr ⟨by decide, Or.inr (fj_lt (c := 5) (n := 5) rfl (by omega) (by omega)), fj_ne (c := 256) (n := 256) rfl (by omega) (by omega) (by omega)⟩))
  · rcases h1 with e | ⟨j, hj, e⟩
    · exact Or.inr (Or.inl ⟨h2, e⟩)
    · by_cases j6 : j < 6
      · left
        have : ∀ j, j < 6 → fp_cd j = nI j := by decide
        exact ⟨j, by omega, e.trans (this j j6)⟩
      · exact Or.inr (Or.inr (Or.inl ⟨h2, j, by omega, hj, e⟩))
/-! the reference asks -/
theorem fl_165 {d x j : Nat} {hp : ai_Hp} (hj : j < 10) (hx : ai_strs[x]? = some ((fp_w j).map nI)) : ∀ (m i : Nat) (v2 : Value), i + m = (fp_w j).length → ai_run (d + 1) 165 1 [.retAddr (x + 1), .long (lN (fp_e (fun i => (fp_w j).getD i 0 - 96) i)), v2, .int (nI i)] [] hp = some (.inl (some (.long (lN (fp_h j)))), hp)
  | 0, i, v2, h => by
    have hw := fp_w_ok j hj
    have e : ai_prim 300 [.retAddr (x + 1)] hp = some (.inl (some (.int (nI (fp_w j).length))), hp) := by
      show (match ai_strs[x]? with
        | some s => some (Sum.inl (some (Value.int (Int32.ofNat s.length))), hp)
        | none => none) = _
      rw [hx]
      show some (Sum.inl (some (Value.int (Int32.ofNat ((fp_w j).map nI).length))), hp) = _
      rw [List.length_map]
      rfl
    rw [bq_165_1, e, fb_s, bq_165_2, if_pos (nI_le (by omega) (by omega)), bq_165_4, show i = (fp_w j).length by omega]
    rfl
  | m + 1, i, v2, h => by
    have hw := fp_w_ok j hj
    have hwi := hw.2 i (by omega)
    have e : ai_prim 300 [.retAddr (x + 1)] hp = some (.inl (some (.int (nI (fp_w j).length))), hp) := by
      show (match ai_strs[x]? with
        | some s => some (Sum.inl (some (Value.int (Int32.ofNat s.length))), hp)
        | none => none) = _
      rw [hx]
      show some (Sum.inl (some (Value.int (Int32.ofNat ((fp_w j).map nI).length))), hp) = _
      rw [List.length_map]
      rfl
    have e' : ai_prim 301 [.retAddr (x + 1), .int (nI i)] hp = some (.inl (some (.int (nI ((fp_w j).getD i 0)))), hp) := by
      show (match ai_strs[x]? with
        | some s => cond (ai_in (nI i) s.length) (some (Sum.inl (some (Value.int (s.getD (nI i).toNatClampNeg 0))), hp)) none
        | none => none) = _
      rw [hx]
      show cond (ai_in (nI i) ((fp_w j).map nI).length) (some (Sum.inl (some (Value.int (((fp_w j).map nI).getD (nI i).toNatClampNeg 0))), hp)) none = _
      rw [List.length_map, fi_in (by omega), decide_eq_true (by omega), cond_true, nI_clamp (by omega)]
      have hi : i < (fp_w j).length := by omega
      simp [List.getD, List.getElem?_map, hi]
    rw [bq_165_1, e, fb_s, bq_165_2, if_neg (nI_ge (by omega) (by omega)), e', fb_s, bq_165_3, show (97 : Int32) = nI 97 from rfl, fi_sub (by omega), nI_1, nI_1, nI_l (by omega), show (32 : Int32).toInt64 = lN 32 from nI_l (n := 32) (by omega), lN_mul, lN_add, show 32 * fp_e (fun i => (fp_w j).getD i 0 - 96) i + ((fp_w j).getD i 0 - 97 + 1) = fp_e (fun i => (fp_w j).getD i 0 - 96) (i + 1) by
      show _ = 32 * fp_e (fun i => (fp_w j).getD i 0 - 96) i + ((fp_w j).getD i 0 - 96)
      omega, fl_165 hj hx m (i + 1) _ (by omega)]
theorem fw_167 {d x j : Nat} {al : Nat × Nat} {N : Nat → Nat → Int64} {τ : Int32} {M : Nat → Nat → Int32} (hR : fp_R τ (M 0 36) (M 0 38) (M 0 39) (N 0 40)) (hj : j < 10) (hx : ai_strs[x]? = some ((fp_w j).map nI)) : ai_run (d + 2) 167 0 [.ref 0, .retAddr (x + 1)] [] (hM al M N) = some (.inl (some (.int (fn_b (τ = fp_cd j)))), hM al M N) := by
  have hw := hR.word hj
  rw [bq_167_0]
  unfold fn_b
  by_cases c : M 0 36 = 2
  · have l := fl_165 (d := d) (hp := hM al M N) hj hx (fp_w j).length 0 ai_un (by omega)
    rw [if_pos c, bq_165_0]
    rw [show ai_run (d + 1) 165 1 [.retAddr (x + 1), .long (Int64.ofNat 0), ai_un, .int 0] [] (hM al M N) = some (.inl (some (.long (lN (fp_h j)))), hM al M N) from l, fb_s, bq_167_1]
    by_cases c2 : N 0 40 = lN (fp_h j)
    · rw [if_pos ((lg_cmp_eq _ _).mpr c2), bq_167_3, if_pos (Or.inr rfl), if_pos (hw.mp ⟨c, c2⟩)]
    · rw [if_neg (fun z => c2 ((lg_cmp_eq _ _).mp z)), bq_167_2, bq_167_3, if_pos (Or.inl rfl), if_neg (fun z => c2 (hw.mpr z).2)]
  · rw [if_neg c, bq_167_2, bq_167_3, if_pos (Or.inl rfl), if_neg (fun z => c (hw.mpr z).1)]
theorem fw_168 {d c : Nat} {al : Nat × Nat} {N : Nat → Nat → Int64} {τ x : Int32} {M : Nat → Nat → Int32} (hR : fp_R τ (M 0 36) (M 0 38) (M 0 39) (N 0 40)) (hc : fp_sg c = true) (hx : x = nI c) : ai_run d 168 0 [.ref 0, .int x] [] (hM al M N) = some (.inl (some (.int (fn_b (τ = x)))), hM al M N) := by
  have hs := hR.sign hc
  rw [hx, bq_168_0]
  unfold fn_b
  by_cases c1 : M 0 36 = 4
  · rw [if_pos c1]
    by_cases c2 : M 0 38 = nI c
    · rw [if_pos c2, bq_168_2, if_pos (Or.inr rfl), if_pos (hs.mp ⟨c1, c2⟩)]
    · rw [if_neg c2, bq_168_1, bq_168_2, if_pos (Or.inl rfl), if_neg (fun z => c2 (hs.mpr z).2)]
  · rw [if_neg c1, bq_168_1, bq_168_2, if_pos (Or.inl rfl), if_neg (fun z => c1 (hs.mpr z).1)]
theorem ai_strs_m : ai_strs[10]? = some ((fp_w 6).map nI) ∧ ai_strs[11]? = some ((fp_w 8).map nI) ∧ ai_strs[12]? = some ((fp_w 9).map nI) ∧ ai_strs[13]? = some ((fp_w 7).map nI) ∧ ai_strs[14]? = some ((fp_w 0).map nI) ∧ ai_strs[15]? = some ((fp_w 1).map nI) ∧ ai_strs[16]? = some ((fp_w 2).map nI) ∧ ai_strs[17]? = some ((fp_w 3).map nI) ∧ ai_strs[18]? = some ((fp_w 4).map nI) ∧ ai_strs[19]? = some ((fp_w 5).map nI) := by decide +kernel
/-- it stops -/
def fp_sp (M : Nat → Nat → Int32) (kd : Int32) : Nat → Nat → Int32 := ai_up (ai_up M 22 6 kd) 22 7 (M 0 37)
theorem fb_r {rc : ai_Rec} {d mi : Nat} {L r : List Value} {k : ai_K} {a : Nat} {h : ai_Hp} : ai_back rc d mi 0 L r k (some (.inr a, h)) = some (.inr a, h) := rfl
set_option maxHeartbeats 4000000 in
/-- a name is wanted -/
theorem fw_169 {d : Nat} {al : Nat × Nat} {N : Nat → Nat → Int64} {τ : Int32} {M : Nat → Nat → Int32} (hR : fp_R τ (M 0 36) (M 0 38) (M 0 39) (N 0 40)) {v1 : Value} : ai_run (d + 3) 169 0 [.ref 0, v1] [] (hM al M N) = if 0 ≤ τ ∧ τ ≤ 5 then some (.inl (some (.int τ)), hM al M N) else some (.inr 22, hM al (fp_sp M (if τ = 256 then 2 else 1)) N) := by
  obtain ⟨s10, s11, s12, s13, s14, s15, s16, s17, s18, s19⟩ := ai_strs_m
  have stop1 : ∀ v : Value, ai_run (d + 3) 169 5 [.ref 0, v] [] (hM al M N) = some (.inr 22, hM al (fp_sp M 1) N) := fun v => by
    rw [bq_169_5, bq_161_0, fb_s, bq_169_6]
    rfl
  have w6 := fw_167 (d := d) (x := 10) (al := al) hR (j := 6) (by omega) s10
  have w7 := fw_167 (d := d) (x := 13) (al := al) hR (j := 7) (by omega) s13
  have w8 := fw_167 (d := d) (x := 11) (al := al) hR (j := 8) (by omega) s11
  have w9 := fw_167 (d := d) (x := 12) (al := al) hR (j := 9) (by omega) s12
  have w0 := fw_167 (d := d) (x := 14) (al := al) hR (j := 0) (by omega) s14
  have w1 := fw_167 (d := d) (x := 15) (al := al) hR (j := 1) (by omega) s15
  have w2 := fw_167 (d := d) (x := 16) (al := al) hR (j := 2) (by omega) s16
  have w3 := fw_167 (d := d) (x := 17) (al := al) hR (j := 3) (by omega) s17
  have w4 := fw_167 (d := d) (x := 18) (al := al) hR (j := 4) (by omega) s18
  have w5 := fw_167 (d := d) (x := 19) (al := al) hR (j := 5) (by omega) s19
  rw [bq_169_0]
  rcases hR.name with ⟨x, x1, x2⟩ | ⟨h1, h2⟩ | ⟨h1, j, j1, j2, j3⟩ | ⟨h1, h2, h3⟩
  · have h36 : M 0 36 = 2 := by
      have : ∀ x, x ≤ 5 → nI x = fp_cd x := by decide
      exact ((hR.word (j := x) (by omega)).mpr (x2.trans (this x x1))).1
    have hin : 0 ≤ τ ∧ τ ≤ 5 := by rw [x2]; exact ⟨nI_pos' (by omega), fj_ge (c := 5) (n := 5) rfl x1 (by omega)⟩
    have hn1 : ¬ τ = -1 := by rw [x2]; exact fi_m1 (by omega)
    rw [if_pos h36, if_pos hin, w6, fb_s, bq_169_1, w7]
    rcases (show x = 0 ∨ x = 1 ∨ x = 2 ∨ x = 3 ∨ x = 4 ∨ x = 5 by omega) with e | e | e | e | e | e <;> subst e <;> subst x2
    · rw [if_pos (by decide), fb_s, bq_169_2, w8, if_pos (by decide), fb_s, bq_169_3, w9, if_pos (by decide), fb_s, bq_169_4, if_pos (by decide), bq_169_7, w0, fb_s, bq_169_8, if_neg (by decide), bq_169_20, if_neg (by decide), bq_169_22]
      rfl
    · rw [if_pos (by decide), fb_s, bq_169_2, w8, if_pos (by decide), fb_s, bq_169_3, w9, if_pos (by decide), fb_s, bq_169_4, if_pos (by decide), bq_169_7, w0, fb_s, bq_169_8, if_pos (by decide), bq_169_9, w1, fb_s, bq_169_10, if_neg (by decide), bq_169_20, if_neg (by decide), bq_169_22]
      rfl
    · rw [if_pos (by decide), fb_s, bq_169_2, w8, if_pos (by decide), fb_s, bq_169_3, w9, if_pos (by decide), fb_s, bq_169_4, if_pos (by decide), bq_169_7, w0, fb_s, bq_169_8, if_pos (by decide), bq_169_9, w1, fb_s, bq_169_10, if_pos (by decide), bq_169_11, w2, fb_s, bq_169_12, if_neg (by decide), bq_169_20, if_neg (by decide), bq_169_22]
      rfl
    · rw [if_pos (by decide), fb_s, bq_169_2, w8, if_pos (by decide), fb_s, bq_169_3, w9, if_pos (by decide), fb_s, bq_169_4, if_pos (by decide), bq_169_7, w0, fb_s, bq_169_8, if_pos (by decide), bq_169_9, w1, fb_s, bq_169_10, if_pos (by decide), bq_169_11, w2, fb_s, bq_169_12, if_pos (by decide), bq_169_13, w3, fb_s, bq_169_14, if_neg (by decide), bq_169_20, if_neg (by decide), bq_169_22]
      rfl
    · rw [if_pos (by decide), fb_s, bq_169_2, w8, if_pos (by decide), fb_s, bq_169_3, w9, if_pos (by decide), fb_s, bq_169_4, if_pos (by decide), bq_169_7, w0, fb_s, bq_169_8, if_pos (by decide), bq_169_9, w1, fb_s, bq_169_10, if_pos (by decide), bq_169_11, w2, fb_s, bq_169_12, if_pos (by decide), bq_169_13, w3, fb_s, bq_169_14, if_pos (by decide), bq_169_15, w4, fb_s, bq_169_16, if_neg (by decide), bq_169_20, if_neg (by decide), bq_169_22]
      rfl
    · rw [if_pos (by decide), fb_s, bq_169_2, w8, if_pos (by decide), fb_s, bq_169_3, w9, if_pos (by decide), fb_s, bq_169_4, if_pos (by decide), bq_169_7, w0, fb_s, bq_169_8, if_pos (by decide), bq_169_9, w1, fb_s, bq_169_10, if_pos (by decide), bq_169_11, w2, fb_s, bq_169_12, if_pos (by decide), bq_169_13, w3, fb_s, bq_169_14, if_pos (by decide), bq_169_15, w4, fb_s, bq_169_16, if_pos (by decide), bq_169_17, w5, fb_s, bq_169_18, if_neg (by decide), bq_169_20, if_neg (by decide), bq_169_22]
      rfl
  · subst h2
    rw [if_pos h1, if_neg (by decide), w6, fb_s, bq_169_1, w7, if_pos (by decide), fb_s, bq_169_2, w8, if_pos (by decide), fb_s, bq_169_3, w9, if_pos (by decide), fb_s, bq_169_4, if_pos (by decide), bq_169_7, w0, fb_s, bq_169_8, if_pos (by decide), bq_169_9, w1, fb_s, bq_169_10, if_pos (by decide), bq_169_11, w2, fb_s, bq_169_12, if_pos (by decide), bq_169_13, w3, fb_s, bq_169_14, if_pos (by decide), bq_169_15, w4, fb_s, bq_169_16, if_pos (by decide), bq_169_17, w5, fb_s, bq_169_18, if_pos (by decide), bq_169_19, bq_169_20, if_pos rfl, bq_161_0, fb_s, bq_169_21, if_pos rfl]
    rfl
  · have hnin : ¬ (0 ≤ τ ∧ τ ≤ 5) ∧ ¬ τ = 256 := by
      have : ∀ j, j < 10 → 6 ≤ j → ¬ (0 ≤ fp_cd j ∧ fp_cd j ≤ 5) ∧ ¬ fp_cd j = 256 := by decide
      rw [j3]; exact this j j2 j1
    rw [if_pos h1, if_neg hnin.1, if_neg hnin.2, w6, fb_s, bq_169_1, w7]
    rcases (show j = 6 ∨ j = 7 ∨ j = 8 ∨ j = 9 by omega) with e | e | e | e <;> subst e <;> subst j3
    · rw [if_neg (by decide), stop1]
    · rw [if_pos (by decide), fb_s, bq_169_2, w8, if_neg (by decide), stop1]
    · rw [if_pos (by decide), fb_s, bq_169_2, w8, if_pos (by decide), fb_s, bq_169_3, w9, if_neg (by decide), stop1]
    · rw [if_pos (by decide), fb_s, bq_169_2, w8, if_pos (by decide), fb_s, bq_169_3, w9, if_pos (by decide), fb_s, bq_169_4, if_neg (by decide), stop1]
  · have hnin : ¬ (0 ≤ τ ∧ τ ≤ 5) := fun z => h2.elim (fun y => absurd y (Int32.not_lt.mpr z.1)) (fun y => absurd y (Int32.not_lt.mpr z.2))
    rw [if_neg h1, if_neg hnin, if_neg h3, stop1]
