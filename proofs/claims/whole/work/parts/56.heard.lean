/-! heard -/
theorem ft_132 {n np t : Nat} {M MM : Nat → Nat → Int32} (h : fn_I n np t M MM) (x : Int32) : fn_S 132 206 [.int x] M MM := by
  intro al am kl N
  obtain ⟨k, k1, k2, k3, k4⟩ := h.plz
  rw [show ai_ent (ai_mx 132) [.ref 0, .int x] = [.ref 0, .int x] from rfl, show ai_ent (ai_mx 206) [.ref 0, .int x] = [.ref 0, .int x] from rfl]
  by_cases g1 : x < 0
  · simp (disch := decide) only [bq_132_0, bq_132_1, bq_44_0, bq_44_1, bq_44_2, bq_206_0, bq_206_1, bq_206_2, fb_s, fb_n, fb_0, fn_b0, fn_b01, and_self, and_true, true_and, and_false, false_and, not_true_eq_false, not_false_eq_true, if_true, if_false, cond_true, cond_false, true_or, or_true, fu_row, fu_at, fu_ne, g1]
    exact ⟨_, n, np, t, _, _, rfl, rfl, ⟨rfl, rfl⟩, h.z⟩
  · by_cases g2 : nI k ≤ x
    · simp (disch := decide) only [bq_132_0, bq_132_1, bq_44_0, bq_44_1, bq_44_2, bq_206_0, bq_206_1, bq_206_2, fb_s, fb_n, fb_0, fn_b0, fn_b01, and_self, and_true, true_and, and_false, false_and, not_true_eq_false, not_false_eq_true, if_true, if_false, cond_true, cond_false, true_or, or_true, fu_row, fu_at, fu_ne, g1, g2, k2, k3]
      exact ⟨_, n, np, t, _, _, rfl, rfl, ⟨rfl, rfl⟩, h.z⟩
    · obtain ⟨p, p1, p2⟩ := fi_of (n := k) (by omega) ⟨Int32.not_lt.mp g1, Int32.not_le.mp g2⟩
      have c0 : x.toNatClampNeg = p := by rw [p2]; exact nI_clamp (by omega)
      have i0 : ai_in x 60 = true := by rw [p2, fi_in (by omega)]; exact decide_eq_true (by omega)
      have g3 := k4 p p1
      simp (disch := decide) only [bq_132_0, bq_132_1, bq_44_0, bq_44_1, bq_44_2, bq_206_0, bq_206_1, bq_206_2, fb_s, fb_n, fb_0, fn_b0, fn_b01, and_self, and_true, true_and, and_false, false_and, not_true_eq_false, not_false_eq_true, if_true, if_false, cond_true, cond_false, true_or, or_true, fu_row, fu_at, fu_ne, g1, g2, k2, k3, c0, i0, g3]
      exact ⟨_, n, np, t, _, _, rfl, rfl, ⟨rfl, rfl⟩, h.z⟩
