/-! routes: the class's search -/
theorem fi_p1 {x j : Nat} (hx : x < 2 ^ 31) (hj : j < 2 ^ 31) : nI x - 1 < nI j ↔ x ≤ j := by
  rw [Int32.lt_iff_toInt_lt, Int32.toInt_sub, nI_toInt hx, nI_toInt hj, show (1 : Int32).toInt = 1 from by decide, Int.bmod_eq_of_le (by omega) (by omega)]
  omega
theorem fi_p2 {x j : Nat} (hx : x < 2 ^ 31) (hj : j < 2 ^ 31) : nI j < nI x - 1 ↔ j + 1 < x := by
  rw [Int32.lt_iff_toInt_lt, Int32.toInt_sub, nI_toInt hx, nI_toInt hj, show (1 : Int32).toInt = 1 from by decide, Int.bmod_eq_of_le (by omega) (by omega)]
  omega
theorem fr_cp_le (v : Nat) : fr_cp v ≤ 255 := Nat.min_le_right _ _
theorem fr_cp_min (a b : Nat) : fr_cp (min a b) = min (fr_cp a) (fr_cp b) := by unfold fr_cp; omega
theorem fr_37 {d : Nat} {al : Nat × Nat} {np t D st mk kl i p q : Nat} {A : fr_A} {M : Nat → Nat → Int32} (hK : fr_Kc np t D st mk kl A M) (hi : i < D) (hp : p < np) (hq : q < np) {v4 : Value} : ai_run (d + 1) 37 0 [.ref 9, .int (nI p), .int (nI q), .int (M 47 i), v4] [] (hC al kl M) = some (.inl (some (.int (nI (A.2.2.2.2 p q i)))), hC al kl M) := by
  obtain ⟨⟨k1, k2, k3, k4, k5, k6, k7, k8, k9⟩, ⟨c1, c2, c3, c4⟩, kw, -⟩ := id hK
  obtain ⟨w, y, w1, y1, w2, y2, e⟩ := kw i hi p q (by omega) (by omega)
  have gp : 0 ≤ nI p ∧ nI p < M 9 0 := by rw [c4]; exact ⟨nI_pos' (by omega), nI_lt hp (by omega)⟩
  have gq : 0 ≤ nI q ∧ nI q < M 9 0 := by rw [c4]; exact ⟨nI_pos' (by omega), nI_lt hq (by omega)⟩
  have hb : w * (4 + y) ≤ 48 * 8 := Nat.mul_le_mul (by omega) (by omega)
  rw [bq_37_0, fw_33, fb_s, bq_37_1, if_neg (fun x => fn_b0.mp x gp), fw_33, fb_s, bq_37_2, if_neg (fun x => fn_b0.mp x gq), bq_37_4, fi_w.1, fi_in (by omega), decide_eq_true (by omega), cond_true, nI_clamp (by omega), w2, y2, fi_hw w w1 y y1, e]
  by_cases c : w * (4 + y) / 4 ≤ 16
  · rw [if_pos c, if_pos (fj_ge (c := 16) (n := 16) rfl c (by omega)), bq_37_5, bq_37_6]
  · rw [if_neg c, if_neg (fj_nge (c := 16) (n := 16) rfl (by omega) (by omega)), bq_37_6]
    rfl
/-- leaving is found, on the last n days -/
def fr_Lv (al : Nat × Nat) (np D st mk kl : Nat) (A : fr_A) (M : Nat → Nat → Int32) (n : Nat) : Prop := ∀ (d i p s : Nat) (g : Nat → Int32) (v4 v5 v6 : Value), i + 1 < D → D - 1 - i ≤ n → p < np → s < 2 ^ np → s.testBit st = true → fr_M np D st mk kl A g → ∃ g' : Nat → Int32, ai_run (d + 4 * n + 4) 53 0 [.ref 45, .int (nI i), .int (nI p), .int (nI s), v4, v5, v6] [] (hC al kl (fn_rw M 49 g)) = some (.inl (some (.int (nI (fr_cp (fr_E A (D - 1 - i) i p s))))), hC al kl (fn_rw M 49 g')) ∧ fr_M np D st mk kl A g' ∧ fr_N mk g g'
/-- the last day of a row, as it was measured -/
theorem fw_214 {d : Nat} {al : Nat × Nat} {np t D st mk kl b p : Nat} {A : fr_A} {M : Nat → Nat → Int32} (hK : fr_Kc np t D st mk kl A M) (hb : b < D) (hp : p < np) {v3 : Value} : ai_run d 214 0 [.ref 45, .int (nI b), .int (nI p), v3] [] (hC al kl M) = some (.inl (some (.int (nI (fr_x A (D - b) b p (A.2.2.1 p)) - 1))), hC al kl M) := by
  obtain ⟨⟨k1, k2, k3, k4, k5, k6, k7, k8, k9⟩, ⟨c1, c2, c3, c4⟩, kw, kx, kh⟩ := id hK
  rw [bq_214_0, if_neg (nI_pos (by omega)), c1, if_neg (nI_nlt (by omega) (by omega)), if_neg (nI_pos (by omega)), c4, if_neg (nI_ge (by omega) (by omega)), bq_214_2, if_neg (by decide), fi_w.1, fi_in (by omega), decide_eq_true (by omega), cond_true, nI_clamp (by omega), kx b p hb hp, bq_214_4]
theorem fl_52 {d n : Nat} {al : Nat × Nat} {np t D st mk kl p s x : Nat} {A : fr_A} {M : Nat → Nat → Int32} (hK : fr_Kc np t D st mk kl A M) (hL : fr_Lv al np D st mk kl A M n) (hp : p < np) (hs : s < 2 ^ np) (hb : s.testBit st = true) (hx : x < D) : ∀ (m j b : Nat) (g : Nat → Int32) (v1 v2 : Value), j + m = x → D - 1 - j ≤ n → b ≤ 255 → fr_M np D st mk kl A g → ∃ g' : Nat → Int32, ai_run (d + 4 * n + 5) 52 3 [.ref 45, v1, v2, .int (nI p), .int (nI s), .int (nI x - 1), .int (nI b), .int (nI j)] [] (hC al kl (fn_rw M 49 g)) = some (.inl (some (.int (nI (min b (fr_cp (fr_ms (fun j => fr_E A (D - 1 - j) j p s) j m)))))), hC al kl (fn_rw M 49 g')) ∧ fr_M np D st mk kl A g' ∧ fr_N mk g g'
  | 0, j, b, g, v1, v2, h, hj, hbb, hM => by
    have hD := hK.1.2.2.2.1
    refine ⟨g, ?_, hM, fun _ h => h⟩
    rw [bq_52_3, if_pos ((fi_p1 (by omega) (by omega)).mpr (by omega)), bq_52_6, show fr_cp (fr_ms (fun j => fr_E A (D - 1 - j) j p s) j 0) = 255 from rfl, Nat.min_eq_left hbb]
  | m + 1, j, b, g, v1, v2, h, hj, hbb, hM => by
    have hD := hK.1.2.2.2.1
    have hc := fr_cp_le (fr_E A (D - 1 - j) j p s)
    obtain ⟨g1, a1, a2, a3⟩ := hL d j p s g ai_un ai_un ai_un (by omega) hj hp hs hb hM
    obtain ⟨g', b1, b2, b3⟩ := fl_52 (d := d) hK hL hp hs hb hx m (j + 1) (min b (fr_cp (fr_E A (D - 1 - j) j p s))) g1 ai_un ai_un (by omega) (by omega) (by omega) a2
    refine ⟨g', ?_, b2, a3.trans b3⟩
    rw [bq_52_3, if_neg (fun z => absurd ((fi_p1 (by omega) (by omega)).mp z) (by omega)), a1, fb_s, bq_52_4, fw_212 (by omega) (by omega), fb_s, bq_52_5, nI_1, b1, Nat.min_assoc]
    show _ = some (Sum.inl (some (Value.int (nI (min b (fr_cp (min (fr_E A (D - 1 - j) j p s) (fr_ms (fun j => fr_E A (D - 1 - j) j p s) (j + 1) m))))))), _)
    rw [fr_cp_min]
theorem fw_52 {d n : Nat} {al : Nat × Nat} {np t D st mk kl p s b j : Nat} {A : fr_A} {M : Nat → Nat → Int32} (hK : fr_Kc np t D st mk kl A M) (hL : fr_Lv al np D st mk kl A M n) (hp : p < np) (hs : s < 2 ^ np) (hb : s.testBit st = true) (hbD : b < D) (hj : j ≤ fr_x A (D - b) b p (A.2.2.1 p)) (hn : D - 1 - j ≤ n) (g : Nat → Int32) (hM : fr_M np D st mk kl A g) {v5 v6 v7 : Value} : ∃ g' : Nat → Int32, ai_run (d + 4 * n + 5) 52 0 [.ref 45, .int (nI b), .int (nI j), .int (nI p), .int (nI s), v5, v6, v7] [] (hC al kl (fn_rw M 49 g)) = some (.inl (some (.int (nI (fr_cp (if fr_x A (D - b) b p (A.2.2.1 p) = D then 0 else fr_ms (fun j => fr_E A (D - 1 - j) j p s) j (fr_x A (D - b) b p (A.2.2.1 p) - j)))))), hC al kl (fn_rw M 49 g')) ∧ fr_M np D st mk kl A g' ∧ fr_N mk g g' := by
  obtain ⟨⟨k1, k2, k3, k4, k5, k6, k7, k8, k9⟩, ⟨c1, c2, c3, c4⟩, kw, kx, kh⟩ := id hK
  have hx := fr_x_ge (A := A) (D - b) b p (A.2.2.1 p)
  have hKg : fr_Kc np t D st mk kl A (fn_rw M 49 g) := hK
  rw [bq_52_0, fw_214 hKg hbD hp, fb_s, bq_52_1, show (fn_rw M 49 g) 45 4 = nI (D - 1) from c1]
  by_cases e : fr_x A (D - b) b p (A.2.2.1 p) = D
  · refine ⟨g, ?_, hM, fun _ h => h⟩
    rw [if_neg (fun z => absurd ((fi_p1 (by omega) (by omega)).mp z) (by omega)), if_pos e]
    rfl
  · obtain ⟨g', a1, a2, a3⟩ := fl_52 (d := d) (n := n) hK hL hp hs hb (x := fr_x A (D - b) b p (A.2.2.1 p)) (by omega) (fr_x A (D - b) b p (A.2.2.1 p) - j) j 255 g ai_un (.int (nI j)) (by omega) hn (Nat.le_refl _) hM
    refine ⟨g', ?_, a2, a3⟩
    rw [if_pos ((fi_p1 (by omega) (by omega)).mpr (by omega)), if_neg e, bq_52_2, show (255 : Int32) = nI 255 from rfl, a1, Nat.min_eq_right (fr_cp_le _)]
theorem fw_55 {d n : Nat} {al : Nat × Nat} {np t D st mk kl i p s : Nat} {A : fr_A} {M : Nat → Nat → Int32} (hK : fr_Kc np t D st mk kl A M) (hL : fr_Lv al np D st mk kl A M n) (hi : i < D) (hn : D - 1 - i ≤ n) (hp : p < np) (hs : s < 2 ^ np) (hb : s.testBit st = true) (g : Nat → Int32) (hM : fr_M np D st mk kl A g) {v4 v5 : Value} : ∃ g' : Nat → Int32, ai_run (d + 4 * n + 6) 55 0 [.ref 45, .int (nI i), .int (nI p), .int (nI s), v4, v5] [] (hC al kl (fn_rw M 49 g)) = some (.inl (some (.int (nI (fr_cp (fr_R A (D - 1 - i) i p s (A.2.2.1 p)))))), hC al kl (fn_rw M 49 g')) ∧ fr_M np D st mk kl A g' ∧ fr_N mk g g' := by
  obtain ⟨⟨k1, k2, k3, k4, k5, k6, k7, k8, k9⟩, ⟨c1, c2, c3, c4⟩, kw, kx, kh⟩ := id hK
  obtain ⟨g1, a1, a2, a3, a4⟩ := fw_56 (d := d + 4 * n + 5) (al := al) (v4 := ai_un) (v5 := ai_un) (v6 := ai_un) hK hi hp hs g hM
  have hsl := fr_sl_lt (i := i) (show np < 10 by omega) k2 (by omega) hp hs
  have iS : ai_in (nI (fr_sl np st i p s)) kl = true := by rw [fi_in (by omega)]; exact decide_eq_true (by omega)
  rw [bq_55_0, a1, fb_s, bq_55_1, if_neg (fi_m1 (by omega)), bq_55_2, iS, cond_true, nI_clamp (by omega)]
  have m2 := (a2.2 i p s hi hp hs hb a4).2
  by_cases hu : fr_bC (g1 (fr_sl np st i p s)) = 254
  · have hx := fr_x_ge (A := A) (D - i) i p (A.2.2.1 p)
    obtain ⟨g2, b1, b2, b3⟩ := fw_52 (d := d) hK hL hp hs hb hi hx.1 hn g1 a2 (v5 := ai_un) (v6 := ai_un) (v7 := ai_un)
    have hA := b3 _ a4
    obtain ⟨q1, q2⟩ := b2.put2 k1 k4 k2 hi hp hs hb hA
    refine ⟨_, ?_, q1, (a3.trans b3).trans q2⟩
    have er : fr_R A (D - 1 - i) i p s (A.2.2.1 p) = if fr_x A (D - i) i p (A.2.2.1 p) = D then 0 else fr_ms (fun j => fr_E A (D - 1 - j) j p s) i (fr_x A (D - i) i p (A.2.2.1 p) - i) := by
      rw [fr_row, show D - 1 - i + 1 = D - i by omega, show i + (D - 1 - i) + 1 = D by omega, show i + (D - 1 - i) = D - 1 by omega]
    rw [if_pos (show (fn_rw M 49 g1) 49 (fr_sl np st i p s) &&& 255 = 254 from hu), b1, fb_s, ← er, bq_55_3, iS, cond_true, cond_true, nI_clamp (by omega), bq_55_4, fn_rw_up]
    rfl
  · refine ⟨g1, ?_, a2, a3⟩
    rw [if_neg (show ¬ (fn_rw M 49 g1) 49 (fr_sl np st i p s) &&& 255 = 254 from hu), bq_55_4, ← m2.resolve_left hu]
    rfl
theorem fw_54 {d n : Nat} {al : Nat × Nat} {np t D st mk kl i p q s B : Nat} {A : fr_A} {M : Nat → Nat → Int32} (hK : fr_Kc np t D st mk kl A M) (hL : fr_Lv al np D st mk kl A M n) (hi : i + 1 < D) (hn : D - 1 - (i + 1) ≤ n) (hp : p < np) (hq : q < np) (hs : s < 2 ^ np) (hb : s.testBit st = true) (hB : B ≤ 255) (g : Nat → Int32) (hM : fr_M np D st mk kl A g) {v6 : Value} : ∃ (r : Nat) (g' : Nat → Int32), ai_run (d + 4 * n + 7) 54 0 [.ref 45, .int (nI i), .int (nI p), .int (nI q), .int (nI s), .int (nI B), v6] [] (hC al kl (fn_rw M 49 g)) = some (.inl (some (.int (nI r))), hC al kl (fn_rw M 49 g')) ∧ fr_M np D st mk kl A g' ∧ fr_N mk g g' ∧ r < 1000 ∧ min B r = min B (fr_cp (fr_W A (D - 2 - i) i p q s)) := by
  obtain ⟨⟨k1, k2, k3, k4, k5, k6, k7, k8, k9⟩, ⟨c1, c2, c3, c4⟩, kw, kx, kh⟩ := id hK
  have h512 := fb_512 k1 hs
  have ht := fb_t s h512 q (by omega)
  have h255 : fr_cp fr_F = 255 := rfl
  rw [bq_54_0, if_neg (nI_pos (by omega)), show (fn_rw M 49 g) 45 4 = nI (D - 1) from c1, if_neg (nI_ge (by omega) (by omega))]
  cases hbq : s.testBit q with
  | true =>
    rw [hbq, decide_eq_true_iff] at ht
    have e : fr_W A (D - 2 - i) i p q s = fr_F := if_pos hbq
    refine ⟨255, g, ?_, hM, fun _ h => h, by omega, by rw [e, h255]⟩
    rw [if_pos ht, bq_54_1]
    rfl
  | false =>
    rw [hbq, decide_eq_false_iff_not] at ht
    have hh := kh p q i
    have hKg : fr_Kc np t D st mk kl A (fn_rw M 49 g) := hK
    have eW : fr_W A (D - 2 - i) i p q s = if A.2.2.2.2 p q i = 0 then fr_F else fr_ad (A.2.2.2.2 p q i) (fr_R A (D - 2 - i) (i + 1) q (s ||| 2 ^ q) (A.2.2.1 q)) := by
      unfold fr_W
      rw [hbq]
      rfl
    rw [if_neg ht, bq_54_2, fi_in (by omega), decide_eq_true (by omega), cond_true, nI_clamp (by omega), fr_37 hKg (by omega) hp hq, fb_s, bq_54_3, eW]
    by_cases h0 : A.2.2.2.2 p q i = 0
    · refine ⟨255, g, ?_, hM, fun _ h => h, by omega, by rw [if_pos h0, h255]⟩
      rw [h0, if_pos (show nI 0 = 0 from rfl), bq_54_5]
      rfl
    · rw [if_neg (nI_ne0 (by omega) (by omega)), if_neg h0]
      have hsm := fr_R_sm kh (D - 2 - i) (i + 1) q (s ||| 2 ^ q) (A.2.2.1 q)
      have hcc : fr_c A.1 (s ||| 2 ^ q) ≤ A.1 := fr_c_le A.1
      by_cases h1 : B ≤ A.2.2.2.2 p q i
      · refine ⟨255, g, ?_, hM, fun _ h => h, by omega, ?_⟩
        · rw [if_pos (nI_le h1 (by omega)), bq_54_5]
          rfl
        · unfold fr_ad
          by_cases e : fr_R A (D - 2 - i) (i + 1) q (s ||| 2 ^ q) (A.2.2.1 q) = fr_F
          · rw [if_pos e, h255]
          · rw [if_neg e]; unfold fr_cp; omega
      · have hx := fr_x_ge (A := A) (D - (i + 1)) (i + 1) q (A.2.2.1 q)
        rw [if_neg (nI_ge (by omega) (by omega)), nI_1, fw_214 hKg hi hq, fb_s, bq_54_4]
        by_cases h2 : i + 1 < fr_x A (D - (i + 1)) (i + 1) q (A.2.2.1 q)
        · obtain ⟨g', a1, a2, a3⟩ := fw_55 (d := d) (v4 := ai_un) (v5 := ai_un) hK hL hi hn hq (fb_or hs hq) (by rw [Nat.testBit_or, hb, Bool.true_or]) g hM
          rw [show D - 1 - (i + 1) = D - 2 - i by omega] at a1
          have hc := fr_cp_le (fr_R A (D - 2 - i) (i + 1) q (s ||| 2 ^ q) (A.2.2.1 q))
          refine ⟨A.2.2.2.2 p q i + fr_cp (fr_R A (D - 2 - i) (i + 1) q (s ||| 2 ^ q) (A.2.2.1 q)), g', ?_, a2, a3, by omega, ?_⟩
          · rw [if_pos ((fi_p2 (by omega) (by omega)).mpr h2), bq_54_6, nI_1, fb_o s h512 q (by omega), a1, fb_s, bq_54_7, nI_add]
          · unfold fr_ad
            rcases hsm with e | e
            · rw [e, h255, if_pos rfl, h255]; omega
            · by_cases e2 : fr_R A (D - 2 - i) (i + 1) q (s ||| 2 ^ q) (A.2.2.1 q) = fr_F
              · rw [e2, h255, if_pos rfl, h255]; omega
              · rw [if_neg e2]; unfold fr_cp; omega
        · refine ⟨255, g, ?_, hM, fun _ h => h, by omega, ?_⟩
          · rw [if_neg (fun z => h2 ((fi_p2 (by omega) (by omega)).mp z)), bq_54_5]
            rfl
          · have e : fr_R A (D - 2 - i) (i + 1) q (s ||| 2 ^ q) (A.2.2.1 q) = fr_F := by
              rw [fr_row, show D - 2 - i + 1 = D - (i + 1) by omega, if_neg (by omega), show fr_x A (D - (i + 1)) (i + 1) q (A.2.2.1 q) - (i + 1) = 0 by omega]
              rfl
            unfold fr_ad
            rw [if_pos e, h255]
theorem fl_53 {d n : Nat} {al : Nat × Nat} {np t D st mk kl i p s : Nat} {A : fr_A} {M : Nat → Nat → Int32} {x4 : Int32} (hK : fr_Kc np t D st mk kl A M) (hL : fr_Lv al np D st mk kl A M n) (hi : i + 1 < D) (hn : D - 1 - (i + 1) ≤ n) (hp : p < np) (hs : s < 2 ^ np) (hb : s.testBit st = true) : ∀ (m q : Nat) (g : Nat → Int32), q + m = np → fr_M np D st mk kl A g → ∃ g' : Nat → Int32, ai_run (d + 4 * n + 8) 53 3 [.ref 45, .int (nI i), .int (nI p), .int (nI s), .int x4, .int (nI (fr_cp (fr_mn (fun q => fr_W A (D - 2 - i) i p q s) q))), .int (nI q)] [] (hC al kl (fn_rw M 49 g)) = ai_run (d + 4 * n + 8) 53 6 [.ref 45, .int (nI i), .int (nI p), .int (nI s), .int x4, .int (nI (fr_cp (fr_mn (fun q => fr_W A (D - 2 - i) i p q s) np))), .int (nI np)] [] (hC al kl (fn_rw M 49 g')) ∧ fr_M np D st mk kl A g' ∧ fr_N mk g g'
  | 0, q, g, h, hM => by
    have : q = np := by omega
    subst this
    exact ⟨g, by rw [bq_53_3, show (fn_rw M 49 g) 9 0 = nI q from hK.2.1.2.2.2, if_pos Int32.le_rfl], hM, fun _ h => h⟩
  | m + 1, q, g, h, hM => by
    have hnp := hK.1.1
    have hc := fr_cp_le (fr_mn (fun q => fr_W A (D - 2 - i) i p q s) q)
    obtain ⟨r, g1, a1, a2, a3, a4, a5⟩ := fw_54 (d := d) (v6 := ai_un) hK hL hi hn hp (show q < np by omega) hs hb hc g hM
    obtain ⟨g', b1, b2, b3⟩ := fl_53 (d := d) (x4 := x4) hK hL hi hn hp hs hb m (q + 1) g1 (by omega) a2
    refine ⟨g', ?_, b2, a3.trans b3⟩
    rw [bq_53_3, show (fn_rw M 49 g) 9 0 = nI np from hK.2.1.2.2.2, if_neg (nI_ge (by omega) (by omega)), a1, fb_s, bq_53_4, fw_212 (by omega) (by omega), fb_s, bq_53_5, nI_1, a5, ← fr_cp_min]
    exact b1
theorem fr_all {al : Nat × Nat} {np t D st mk kl : Nat} {A : fr_A} {M : Nat → Nat → Int32} (hK : fr_Kc np t D st mk kl A M) : ∀ n : Nat, fr_Lv al np D st mk kl A M n
  | 0 => fun d i p s g v4 v5 v6 hi hn => by omega
  | n + 1 => fun d i p s g v4 v5 v6 hi hn hp hs hb hM => by
    obtain ⟨⟨k1, k2, k3, k4, k5, k6, k7, k8, k9⟩, ⟨c1, c2, c3, c4⟩, kw, kx, kh⟩ := id hK
    have hL := fr_all (al := al) hK n
    obtain ⟨g1, a1, a2, a3, a4⟩ := fw_56 (d := d + 4 * n + 7) (al := al) (v4 := ai_un) (v5 := ai_un) (v6 := ai_un) hK (show i < D by omega) hp hs g hM
    have hsl := fr_sl_lt (i := i) (show np < 10 by omega) k2 (by omega) hp hs
    have iS : ai_in (nI (fr_sl np st i p s)) kl = true := by rw [fi_in (by omega)]; exact decide_eq_true (by omega)
    have m1 := (a2.2 i p s (by omega) hp hs hb a4).1
    rw [show d + 4 * (n + 1) + 4 = d + 4 * n + 7 + 1 by omega, bq_53_0, a1, fb_s, bq_53_1, if_neg (fi_m1 (by omega)), bq_53_2, iS, cond_true, nI_clamp (by omega)]
    by_cases hu : fr_bB (g1 (fr_sl np st i p s)) = 254
    · obtain ⟨g2, b1, b2, b3⟩ := fl_53 (d := d) (x4 := nI (fr_sl np st i p s)) hK hL hi (by omega) hp hs hb np 0 g1 (by omega) a2
      have hA := b3 _ a4
      obtain ⟨q1, q2⟩ := b2.put1 k1 k4 k2 (show i < D by omega) hp hs hb hA
      have eE : fr_mn (fun q => fr_W A (D - 2 - i) i p q s) np = fr_E A (D - 1 - i) i p s := by
        rw [show D - 1 - i = D - 2 - i + 1 by omega, ← k7]
        rfl
      refine ⟨_, ?_, q1, (a3.trans b3).trans q2⟩
      rw [if_pos (show ((fn_rw M 49 g1) 49 (fr_sl np st i p s) >>> (8 &&& 31)) &&& 255 = 254 from hu)]
      refine (show _ = _ from b1).trans ?_
      rw [bq_53_6, iS, cond_true, cond_true, nI_clamp (by omega), bq_53_7, fn_rw_up, eE]
      rfl
    · refine ⟨g1, ?_, a2, a3⟩
      rw [if_neg (show ¬ ((fn_rw M 49 g1) 49 (fr_sl np st i p s) >>> (8 &&& 31)) &&& 255 = 254 from hu), bq_53_7, ← m1.resolve_left hu]
      rfl
