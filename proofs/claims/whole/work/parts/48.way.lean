/-! ways -/
theorem fn_lw {np : Nat} {M MM : Nat → Nat → Int32} {x : Int32} {i k : Nat} (h : fn_land np (M 9 0) (M 10) (M 11) (M 12) (M 13) (M 14) (M 15) (M 16) (M 17) (M 18) (M 19) (MM 0 5) (MM 5) (MM 6) (MM 7) (MM 8) (MM 9) (MM 10) (MM 11) (MM 12) (MM 13) (MM 14)) (hx : 0 ≤ x ∧ x ≤ 48) : fn_land np (M 9 0) (M 10) (M 11) (M 12) (M 13) (M 14) (M 15) (M 16) (M 17) (M 18) (upd (upd (M 19) i x) k x) (MM 0 5) (MM 5) (MM 6) (MM 7) (MM 8) (MM 9) (MM 10) (MM 11) (MM 12) (MM 13) (upd (upd (MM 14) i x) k x) := by
  obtain ⟨h1, h4, h5, h6, h7, h8⟩ := h
  refine ⟨h1, h4, h5, fun j hj => ?_, h7, fun j hj => ?_⟩
  · by_cases hk : j = k
    · subst hk; rw [pk_us, pk_us]
    · rw [pk_un hk, pk_un hk]
      by_cases hi : j = i
      · subst hi; rw [pk_us, pk_us]
      · rw [pk_un hi, pk_un hi]; exact h6 j hj
  · by_cases hk : j = k
    · subst hk; rw [pk_us]; exact hx
    · rw [pk_un hk]
      by_cases hi : j = i
      · subst hi; rw [pk_us]; exact hx
      · rw [pk_un hi]; exact h8 j hj
theorem fi_w {p q : Nat} : nI p * 9 + nI q = nI (9 * p + q) ∧ 9 * nI p + nI q = nI (9 * p + q) := by
  refine ⟨?_, ?_⟩
  · rw [show (9 : Int32) = nI 9 from rfl, pk_mul, nI_add, Nat.mul_comm]
  · rw [show (9 : Int32) = nI 9 from rfl, pk_mul, nI_add]
set_option maxHeartbeats 2000000 in
theorem ft_109 {n np t : Nat} {M MM : Nat → Nat → Int32} (h : fn_I n np t M MM) (a b c : Int32) : fn_S 109 157 [.int a, .int b, .int c] M MM := by
  intro al am kl N
  obtain ⟨e1, e2, e3⟩ := h.land.1
  obtain ⟨n1, n2, n3, n4, n5, n6⟩ := h.now
  rw [show ai_ent (ai_mx 109) [.ref 0, .int a, .int b, .int c] = [.ref 0, .int a, .int b, .int c] from rfl, show ai_ent (ai_mx 157) [.ref 0, .int a, .int b, .int c] = [.ref 0, .int a, .int b, .int c] from rfl]
  by_cases h1 : 0 ≤ a ∧ a < nI np
  · by_cases h2 : 0 ≤ b ∧ b < nI np
    · by_cases h0 : a = b
      · simp (disch := decide) only [bq_109_0, bq_109_1, bq_109_2, bq_109_3, bq_109_4, bq_109_5, bq_109_6, bq_109_7, bq_109_8, bq_109_9, bq_109_10, bq_36_0, bq_36_1, bq_36_2, bq_36_3, bq_138_0, bq_139_0, bq_157_0, bq_157_1, bq_157_2, bq_157_3, bq_157_4, bq_157_5, bq_157_6, bq_157_7, bq_157_8, bq_157_9, bq_145_0, bq_147_0, fb_s, fb_n, fb_0, fn_b0, fn_b01, and_self, and_true, true_and, and_false, false_and, not_true_eq_false, not_false_eq_true, if_true, if_false, cond_true, cond_false, true_or, or_true, fu_row, fu_at, fu_ne, fw_33, fw_151, e2, e3, h1, h2, h0]
        exact ⟨_, n, np, t, _, _, rfl, rfl, ⟨rfl, rfl⟩, h.no 1⟩
      · by_cases h3 : (0 ≤ c ∧ c ≤ 48)
        · obtain ⟨p, p1, p2⟩ := fi_of (by omega) h1
          obtain ⟨q, q1, q2⟩ := fi_of (by omega) h2
          have g1 : a * 9 + b = nI (9 * p + q) := by rw [p2, q2]; exact fi_w.1
          have g2 : b * 9 + a = nI (9 * q + p) := by rw [p2, q2]; exact fi_w.1
          have g3 : 9 * a + b = nI (9 * p + q) := by rw [p2, q2]; exact fi_w.2
          have g4 : 9 * b + a = nI (9 * q + p) := by rw [p2, q2]; exact fi_w.2
          have i1 : ai_in (nI (9 * p + q)) 81 = true := by rw [fi_in (by omega)]; exact decide_eq_true (by omega)
          have i2 : ai_in (nI (9 * q + p)) 81 = true := by rw [fi_in (by omega)]; exact decide_eq_true (by omega)
          have c1 : (nI (9 * p + q)).toNatClampNeg = 9 * p + q := nI_clamp (by omega)
          have c2 : (nI (9 * q + p)).toNatClampNeg = 9 * q + p := nI_clamp (by omega)
          simp (disch := decide) only [bq_109_0, bq_109_1, bq_109_2, bq_109_3, bq_109_4, bq_109_5, bq_109_6, bq_109_7, bq_109_8, bq_109_9, bq_109_10, bq_36_0, bq_36_1, bq_36_2, bq_36_3, bq_138_0, bq_139_0, bq_157_0, bq_157_1, bq_157_2, bq_157_3, bq_157_4, bq_157_5, bq_157_6, bq_157_7, bq_157_8, bq_157_9, bq_145_0, bq_147_0, fb_s, fb_n, fb_0, fn_b0, fn_b01, and_self, and_true, true_and, and_false, false_and, not_true_eq_false, not_false_eq_true, if_true, if_false, cond_true, cond_false, true_or, or_true, fu_row, fu_at, fu_ne, fw_33, fw_151, fw_142, fw_148, e2, e3, h1, h2, h0, h3, g1, g2, g3, g4, i1, i2, c1, c2]
          exact ⟨_, n, np, t, _, _, rfl, rfl, ⟨rfl, rfl⟩, ⟨h.court, fn_lw h.land h3, h.cal, ⟨n1, n2, n3, rfl, n5, n6⟩, h.rest⟩⟩
        · simp (disch := decide) only [bq_109_0, bq_109_1, bq_109_2, bq_109_3, bq_109_4, bq_109_5, bq_109_6, bq_109_7, bq_109_8, bq_109_9, bq_109_10, bq_36_0, bq_36_1, bq_36_2, bq_36_3, bq_138_0, bq_139_0, bq_157_0, bq_157_1, bq_157_2, bq_157_3, bq_157_4, bq_157_5, bq_157_6, bq_157_7, bq_157_8, bq_157_9, bq_145_0, bq_147_0, fb_s, fb_n, fb_0, fn_b0, fn_b01, and_self, and_true, true_and, and_false, false_and, not_true_eq_false, not_false_eq_true, if_true, if_false, cond_true, cond_false, true_or, or_true, fu_row, fu_at, fu_ne, fw_33, fw_151, fw_142, fw_148, e2, e3, h1, h2, h0, h3]
          exact ⟨_, n, np, t, _, _, rfl, rfl, ⟨rfl, rfl⟩, h.no 2⟩
    · simp (disch := decide) only [bq_109_0, bq_109_1, bq_109_2, bq_109_3, bq_109_4, bq_109_5, bq_109_6, bq_109_7, bq_109_8, bq_109_9, bq_109_10, bq_36_0, bq_36_1, bq_36_2, bq_36_3, bq_138_0, bq_139_0, bq_157_0, bq_157_1, bq_157_2, bq_157_3, bq_157_4, bq_157_5, bq_157_6, bq_157_7, bq_157_8, bq_157_9, bq_145_0, bq_147_0, fb_s, fb_n, fb_0, fn_b0, fn_b01, and_self, and_true, true_and, and_false, false_and, not_true_eq_false, not_false_eq_true, if_true, if_false, cond_true, cond_false, true_or, or_true, fu_row, fu_at, fu_ne, fw_33, fw_151, e2, e3, h1, h2]
      exact ⟨_, n, np, t, _, _, rfl, rfl, ⟨rfl, rfl⟩, h.no 1⟩
  · simp (disch := decide) only [bq_109_0, bq_109_1, bq_109_2, bq_109_3, bq_109_4, bq_109_5, bq_109_6, bq_109_7, bq_109_8, bq_109_9, bq_109_10, bq_36_0, bq_36_1, bq_36_2, bq_36_3, bq_138_0, bq_139_0, bq_157_0, bq_157_1, bq_157_2, bq_157_3, bq_157_4, bq_157_5, bq_157_6, bq_157_7, bq_157_8, bq_157_9, bq_145_0, bq_147_0, fb_s, fb_n, fb_0, fn_b0, fn_b01, and_self, and_true, true_and, and_false, false_and, not_true_eq_false, not_false_eq_true, if_true, if_false, cond_true, cond_false, true_or, or_true, fu_row, fu_at, fu_ne, fw_33, fw_151, e2, e3, h1]
    exact ⟨_, n, np, t, _, _, rfl, rfl, ⟨rfl, rfl⟩, h.no 1⟩
