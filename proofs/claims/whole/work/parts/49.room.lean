/-! rooms -/
theorem fn_lr {np p q : Nat} {M MM : Nat → Nat → Int32} {x y z : Int32} (h : fn_land np (M 9 0) (M 10) (M 11) (M 12) (M 13) (M 14) (M 15) (M 16) (M 17) (M 18) (M 19) (MM 0 5) (MM 5) (MM 6) (MM 7) (MM 8) (MM 9) (MM 10) (MM 11) (MM 12) (MM 13) (MM 14)) (hp : p < 9) (hq : q < 10) (hr : M 15 p = nI q) (hx : 1 ≤ x ∧ x ≤ 9) (hy : 0 ≤ y ∧ y ≤ 3) (hz : 0 ≤ z ∧ z ≤ 99) : fn_land np (M 9 0) (M 10) (M 11) (M 12) (M 13) (M 14) (upd (M 15) p (nI (q + 1))) (upd (M 16) (10 * p + q) x) (upd (M 17) (10 * p + q) y) (upd (M 18) (10 * p + q) z) (M 19) (MM 0 5) (MM 5) (MM 6) (MM 7) (MM 8) (MM 9) (upd (MM 10) p (nI (q + 1))) (upd (MM 11) (10 * p + q) x) (upd (MM 12) (10 * p + q) y) (upd (MM 13) (10 * p + q) z) (MM 14) := by
  obtain ⟨h1, h4, h5, h6, h7, h8⟩ := h
  refine ⟨h1, fun j hj => ?_, fun j hj => ?_, h6, fun j hj => ?_, h8⟩
  · obtain ⟨a1, a2, a3, a4, a5, a6⟩ := h4 j hj
    refine ⟨a1, a2, a3, a4, a5, ?_⟩
    by_cases hk : j = p
    · subst hk; rw [pk_us, pk_us]
    · rw [pk_un hk, pk_un hk]; exact a6
  · by_cases hk : j = 10 * p + q
    · subst hk; rw [pk_us, pk_us, pk_us, pk_us, pk_us, pk_us]; exact ⟨rfl, rfl, rfl⟩
    · rw [pk_un hk, pk_un hk, pk_un hk, pk_un hk, pk_un hk, pk_un hk]; exact h5 j hj
  · obtain ⟨b1, b2, b3, w, w1, w2, w3⟩ := h7 j hj
    refine ⟨b1, b2, b3, ?_⟩
    by_cases hk : j = p
    · subst hk
      have hw : w = q := (nI_eq (by omega) (by omega)).mp (w2.symm.trans hr)
      subst hw
      refine ⟨w + 1, by omega, pk_us, fun k hk => ?_⟩
      by_cases hkw : k = w
      · subst hkw; rw [pk_us, pk_us, pk_us]; exact ⟨hx, hy, hz⟩
      · rw [pk_un (by omega), pk_un (by omega), pk_un (by omega)]; exact w3 k (by omega)
    · refine ⟨w, w1, by rw [pk_un hk]; exact w2, fun k hk2 => ?_⟩
      rw [pk_un (by omega), pk_un (by omega), pk_un (by omega)]
      exact w3 k hk2
theorem fi_r {p q : Nat} : nI p * 10 + nI q = nI (10 * p + q) ∧ 10 * nI p + nI q = nI (10 * p + q) := by
  refine ⟨?_, ?_⟩
  · rw [show (10 : Int32) = nI 10 from rfl, pk_mul, nI_add, Nat.mul_comm]
  · rw [show (10 : Int32) = nI 10 from rfl, pk_mul, nI_add]
set_option maxHeartbeats 2000000 in
theorem ft_108 {n np t : Nat} {M MM : Nat → Nat → Int32} (h : fn_I n np t M MM) (a b c e : Int32) : fn_S 108 156 [.int a, .int b, .int c, .int e] M MM := by
  intro al am kl N
  obtain ⟨e1, e2, e3⟩ := h.land.1
  obtain ⟨n1, n2, n3, n4, n5, n6⟩ := h.now
  rw [show ai_ent (ai_mx 108) [.ref 0, .int a, .int b, .int c, .int e] = [.ref 0, .int a, .int b, .int c, .int e] from rfl, show ai_ent (ai_mx 156) [.ref 0, .int a, .int b, .int c, .int e] = [.ref 0, .int a, .int b, .int c, .int e, ai_un] from rfl]
  by_cases h1 : 0 ≤ a ∧ a < nI np
  · by_cases h2 : 1 ≤ b ∧ b ≤ 9
    · by_cases h3 : 0 ≤ c ∧ c ≤ 3
      · by_cases h4 : 0 ≤ e ∧ e ≤ 99
        · obtain ⟨p, p1, p2⟩ := fi_of (by omega) h1
          obtain ⟨-, -, -, q, q1, q2, -⟩ := h.land.2.2.2.2.1 p (by omega)
          have q3 : MM 10 p = nI q := ((h.land.2.1 p (by omega)).2.2.2.2.2).symm.trans q2
          have c0 : a.toNatClampNeg = p := by rw [p2]; exact nI_clamp (by omega)
          have i0 : ai_in a 9 = true := by rw [p2, fi_in (by omega)]; exact decide_eq_true (by omega)
          by_cases hq : q < 10
          · have g1 : a * 10 + nI q = nI (10 * p + q) := by rw [p2]; exact fi_r.1
            have g2 : 10 * a + nI q = nI (10 * p + q) := by rw [p2]; exact fi_r.2
            have i1 : ai_in (nI (10 * p + q)) 90 = true := by rw [fi_in (by omega)]; exact decide_eq_true (by omega)
            have c1 : (nI (10 * p + q)).toNatClampNeg = 10 * p + q := nI_clamp (by omega)
            have k1 : nI q < 10 := nI_lt (b := 10) hq (by omega)
            have k2 : ¬ nI q = 10 := fun r => absurd ((nI_eq (b := 10) (by omega) (by omega)).mp r) (by omega)
            simp (disch := decide) only [bq_108_0, bq_108_1, bq_108_2, bq_108_3, bq_108_4, bq_108_5, bq_108_6, bq_108_7, bq_108_8, bq_108_9, bq_108_10, bq_108_11, bq_108_12, bq_108_13, bq_35_0, bq_35_1, bq_35_2, bq_35_3, bq_136_0, bq_137_0, bq_156_0, bq_156_1, bq_156_2, bq_156_3, bq_156_4, bq_156_5, bq_156_6, bq_156_7, bq_156_8, bq_156_9, bq_156_10, bq_156_11, bq_156_12, bq_144_0, bq_146_0, fb_s, fb_n, fb_0, fn_b0, fn_b01, and_self, and_true, true_and, and_false, false_and, not_true_eq_false, not_false_eq_true, if_true, if_false, cond_true, cond_false, true_or, or_true, fu_row, fu_at, fu_ne, fw_33, fw_151, fw_142, fw_148, e2, e3, h1, h2, h3, h4, c0, i0, q2, q3, k1, k2, g1, g2, i1, c1, pk_us, nI_1, nI_pred]
            exact ⟨_, n, np, t, _, _, rfl, rfl, ⟨rfl, rfl⟩, ⟨h.court, fn_lr h.land (by omega) hq q2 h2 h3 h4, h.cal, ⟨n1, n2, n3, rfl, n5, n6⟩, h.rest⟩⟩
          · have hq2 : q = 10 := by omega
            subst hq2
            have k1 : ¬ nI 10 < 10 := by decide
            have k2 : nI 10 = 10 := rfl
            simp (disch := decide) only [bq_108_0, bq_108_1, bq_108_2, bq_108_3, bq_108_4, bq_108_5, bq_108_6, bq_108_7, bq_108_8, bq_108_9, bq_108_10, bq_108_11, bq_108_12, bq_108_13, bq_35_0, bq_35_1, bq_35_2, bq_35_3, bq_136_0, bq_137_0, bq_156_0, bq_156_1, bq_156_2, bq_156_3, bq_156_4, bq_156_5, bq_156_6, bq_156_7, bq_156_8, bq_156_9, bq_156_10, bq_156_11, bq_156_12, bq_144_0, bq_146_0, fb_s, fb_n, fb_0, fn_b0, fn_b01, and_self, and_true, true_and, and_false, false_and, not_true_eq_false, not_false_eq_true, if_true, if_false, cond_true, cond_false, true_or, or_true, fu_row, fu_at, fu_ne, fw_33, fw_151, fw_142, fw_148, e2, e3, h1, h2, h3, h4, c0, i0, q2, q3, k1, k2]
            exact ⟨_, n, np, t, _, _, rfl, rfl, ⟨rfl, rfl⟩, h.no 3⟩
        · simp (disch := decide) only [bq_108_0, bq_108_1, bq_108_2, bq_108_3, bq_108_4, bq_108_5, bq_108_6, bq_108_7, bq_108_8, bq_108_9, bq_108_10, bq_108_11, bq_108_12, bq_108_13, bq_35_0, bq_35_1, bq_35_2, bq_35_3, bq_136_0, bq_137_0, bq_156_0, bq_156_1, bq_156_2, bq_156_3, bq_156_4, bq_156_5, bq_156_6, bq_156_7, bq_156_8, bq_156_9, bq_156_10, bq_156_11, bq_156_12, bq_144_0, bq_146_0, fb_s, fb_n, fb_0, fn_b0, fn_b01, and_self, and_true, true_and, and_false, false_and, not_true_eq_false, not_false_eq_true, if_true, if_false, cond_true, cond_false, true_or, or_true, fu_row, fu_at, fu_ne, fw_33, fw_151, fw_142, fw_148, e2, e3, h1, h2, h3, h4]
          exact ⟨_, n, np, t, _, _, rfl, rfl, ⟨rfl, rfl⟩, h.no 2⟩
      · simp (disch := decide) only [bq_108_0, bq_108_1, bq_108_2, bq_108_3, bq_108_4, bq_108_5, bq_108_6, bq_108_7, bq_108_8, bq_108_9, bq_108_10, bq_108_11, bq_108_12, bq_108_13, bq_35_0, bq_35_1, bq_35_2, bq_35_3, bq_136_0, bq_137_0, bq_156_0, bq_156_1, bq_156_2, bq_156_3, bq_156_4, bq_156_5, bq_156_6, bq_156_7, bq_156_8, bq_156_9, bq_156_10, bq_156_11, bq_156_12, bq_144_0, bq_146_0, fb_s, fb_n, fb_0, fn_b0, fn_b01, and_self, and_true, true_and, and_false, false_and, not_true_eq_false, not_false_eq_true, if_true, if_false, cond_true, cond_false, true_or, or_true, fu_row, fu_at, fu_ne, fw_33, fw_151, fw_142, fw_148, e2, e3, h1, h2, h3]
        exact ⟨_, n, np, t, _, _, rfl, rfl, ⟨rfl, rfl⟩, h.no 2⟩
    · simp (disch := decide) only [bq_108_0, bq_108_1, bq_108_2, bq_108_3, bq_108_4, bq_108_5, bq_108_6, bq_108_7, bq_108_8, bq_108_9, bq_108_10, bq_108_11, bq_108_12, bq_108_13, bq_35_0, bq_35_1, bq_35_2, bq_35_3, bq_136_0, bq_137_0, bq_156_0, bq_156_1, bq_156_2, bq_156_3, bq_156_4, bq_156_5, bq_156_6, bq_156_7, bq_156_8, bq_156_9, bq_156_10, bq_156_11, bq_156_12, bq_144_0, bq_146_0, fb_s, fb_n, fb_0, fn_b0, fn_b01, and_self, and_true, true_and, and_false, false_and, not_true_eq_false, not_false_eq_true, if_true, if_false, cond_true, cond_false, true_or, or_true, fu_row, fu_at, fu_ne, fw_33, fw_151, fw_142, fw_148, e2, e3, h1, h2]
      exact ⟨_, n, np, t, _, _, rfl, rfl, ⟨rfl, rfl⟩, h.no 2⟩
  · simp (disch := decide) only [bq_108_0, bq_108_1, bq_108_2, bq_108_3, bq_108_4, bq_108_5, bq_108_6, bq_108_7, bq_108_8, bq_108_9, bq_108_10, bq_108_11, bq_108_12, bq_108_13, bq_35_0, bq_35_1, bq_35_2, bq_35_3, bq_136_0, bq_137_0, bq_156_0, bq_156_1, bq_156_2, bq_156_3, bq_156_4, bq_156_5, bq_156_6, bq_156_7, bq_156_8, bq_156_9, bq_156_10, bq_156_11, bq_156_12, bq_144_0, bq_146_0, fb_s, fb_n, fb_0, fn_b0, fn_b01, and_self, and_true, true_and, and_false, false_and, not_true_eq_false, not_false_eq_true, if_true, if_false, cond_true, cond_false, true_or, or_true, fu_row, fu_at, fu_ne, fw_33, fw_151, e2, e3, h1]
    exact ⟨_, n, np, t, _, _, rfl, rfl, ⟨rfl, rfl⟩, h.no 1⟩
