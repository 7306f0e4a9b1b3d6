/-! bringing -/
theorem fn_lb {np p : Nat} {M MM : Nat → Nat → Int32} {x y : Int32} (h : fn_land np (M 9 0) (M 10) (M 11) (M 12) (M 13) (M 14) (M 15) (M 16) (M 17) (M 18) (M 19) (MM 0 5) (MM 5) (MM 6) (MM 7) (MM 8) (MM 9) (MM 10) (MM 11) (MM 12) (MM 13) (MM 14)) (hx : 0 ≤ x ∧ x ≤ 1000000) (hy : 0 ≤ y ∧ y ≤ 1000000) : fn_land np (M 9 0) (upd (M 10) p x) (upd (M 11) p y) (M 12) (M 13) (M 14) (M 15) (M 16) (M 17) (M 18) (M 19) (MM 0 5) (upd (MM 5) p x) (upd (MM 6) p y) (MM 7) (MM 8) (MM 9) (MM 10) (MM 11) (MM 12) (MM 13) (MM 14) := by
  obtain ⟨h1, h4, h5, h6, h7, h8⟩ := h
  refine ⟨h1, fun j hj => ?_, h5, h6, fun j hj => ?_, h8⟩
  · obtain ⟨a1, a2, a3⟩ := h4 j hj
    by_cases hk : j = p
    · subst hk; rw [pk_us, pk_us, pk_us, pk_us]; exact ⟨rfl, rfl, a3⟩
    · rw [pk_un hk, pk_un hk, pk_un hk, pk_un hk]; exact ⟨a1, a2, a3⟩
  · obtain ⟨b1, b2, b3⟩ := h7 j hj
    by_cases hk : j = p
    · subst hk; rw [pk_us, pk_us]; exact ⟨hx, hy, b3⟩
    · rw [pk_un hk, pk_un hk]; exact ⟨b1, b2, b3⟩
theorem fi_l {x : Int64} (h1 : ¬ lg_cmp x (Int64.ofNat 0) < 0) (h2 : lg_cmp x (1000000 : Int32).toInt64 ≤ 0) : 0 ≤ x.toInt32 ∧ x.toInt32 ≤ 1000000 := by
  rw [lg_cmp_lt, Int64.lt_iff_toInt_lt] at h1
  rw [lg_cmp_le, Int64.le_iff_toInt_le] at h2
  have e0 : (Int64.ofNat 0).toInt = 0 := by decide
  have e1 : ((1000000 : Int32).toInt64).toInt = 1000000 := by decide
  rw [e0] at h1
  rw [e1] at h2
  have e2 : x.toInt32.toInt = x.toInt := by
    rw [Int64.toInt_toInt32]
    exact Int.bmod_eq_of_le (by omega) (by omega)
  have e3 : (0 : Int32).toInt = 0 := by decide
  have e4 : (1000000 : Int32).toInt = 1000000 := by decide
  exact ⟨Int32.le_iff_toInt_le.mpr (by omega), Int32.le_iff_toInt_le.mpr (by omega)⟩
theorem fi_g {x y : Int64} (h : ¬ 0 < lg_cmp x y) : lg_cmp x y ≤ 0 := Int32.not_lt.mp h
set_option maxHeartbeats 2000000 in
theorem ft_112 {n np t : Nat} {M MM : Nat → Nat → Int32} (h : fn_I n np t M MM) (a b c : Int32) : fn_S 112 160 [.int a, .int b, .int c] M MM := by
  intro al am kl N
  obtain ⟨e1, e2, e3⟩ := h.land.1
  obtain ⟨n1, n2, n3, n4, n5, n6⟩ := h.now
  rw [show ai_ent (ai_mx 112) [.ref 0, .int a, .int b, .int c] = [.ref 0, .int a, .int b, .int c, ai_un, ai_un, ai_un, ai_un] from rfl, show ai_ent (ai_mx 160) [.ref 0, .int a, .int b, .int c] = [.ref 0, .int a, .int b, .int c, ai_un, ai_un, ai_un, ai_un] from rfl]
  by_cases h1 : 0 ≤ a ∧ a < nI np
  · obtain ⟨p, p1, p2⟩ := fi_of (by omega) h1
    have c0 : a.toNatClampNeg = p := by rw [p2]; exact nI_clamp (by omega)
    have i0 : ai_in a 9 = true := by rw [p2, fi_in (by omega)]; exact decide_eq_true (by omega)
    have g5 : M 10 p = MM 5 p := (h.land.2.1 p (by omega)).1
    have g6 : M 11 p = MM 6 p := (h.land.2.1 p (by omega)).2.1
    by_cases k1 : lg_cmp ((MM 5 p).toInt64 + b.toInt64) (Int64.ofNat 0) < 0
    · simp (disch := decide) only [bq_112_0, bq_112_1, bq_112_2, bq_112_3, bq_112_4, bq_112_5, bq_112_6, bq_112_7, bq_138_0, bq_139_0, bq_160_0, bq_160_1, bq_160_2, bq_160_3, bq_160_4, bq_160_5, bq_160_6, bq_160_7, bq_145_0, bq_147_0, fb_s, fb_n, fb_0, fn_b0, fn_b01, and_self, and_true, true_and, and_false, false_and, not_true_eq_false, not_false_eq_true, if_true, if_false, cond_true, cond_false, true_or, or_true, fu_row, fu_at, fu_ne, fw_33, fw_151, e2, e3, h1, c0, i0, g5, g6, k1]
      exact ⟨_, n, np, t, _, _, rfl, rfl, ⟨rfl, rfl⟩, h.no 2⟩
    · by_cases k2 : 0 < lg_cmp ((MM 5 p).toInt64 + b.toInt64) (1000000 : Int32).toInt64
      · simp (disch := decide) only [bq_112_0, bq_112_1, bq_112_2, bq_112_3, bq_112_4, bq_112_5, bq_112_6, bq_112_7, bq_138_0, bq_139_0, bq_160_0, bq_160_1, bq_160_2, bq_160_3, bq_160_4, bq_160_5, bq_160_6, bq_160_7, bq_145_0, bq_147_0, fb_s, fb_n, fb_0, fn_b0, fn_b01, and_self, and_true, true_and, and_false, false_and, not_true_eq_false, not_false_eq_true, if_true, if_false, cond_true, cond_false, true_or, or_true, fu_row, fu_at, fu_ne, fw_33, fw_151, e2, e3, h1, c0, i0, g5, g6, k1, k2]
        exact ⟨_, n, np, t, _, _, rfl, rfl, ⟨rfl, rfl⟩, h.no 2⟩
      · by_cases k3 : lg_cmp ((MM 6 p).toInt64 + c.toInt64) (Int64.ofNat 0) < 0
        · simp (disch := decide) only [bq_112_0, bq_112_1, bq_112_2, bq_112_3, bq_112_4, bq_112_5, bq_112_6, bq_112_7, bq_138_0, bq_139_0, bq_160_0, bq_160_1, bq_160_2, bq_160_3, bq_160_4, bq_160_5, bq_160_6, bq_160_7, bq_145_0, bq_147_0, fb_s, fb_n, fb_0, fn_b0, fn_b01, and_self, and_true, true_and, and_false, false_and, not_true_eq_false, not_false_eq_true, if_true, if_false, cond_true, cond_false, true_or, or_true, fu_row, fu_at, fu_ne, fw_33, fw_151, e2, e3, h1, c0, i0, g5, g6, k1, k2, k3]
          exact ⟨_, n, np, t, _, _, rfl, rfl, ⟨rfl, rfl⟩, h.no 2⟩
        · by_cases k4 : lg_cmp ((MM 6 p).toInt64 + c.toInt64) (1000000 : Int32).toInt64 ≤ 0
          · simp (disch := decide) only [bq_112_0, bq_112_1, bq_112_2, bq_112_3, bq_112_4, bq_112_5, bq_112_6, bq_112_7, bq_138_0, bq_139_0, bq_160_0, bq_160_1, bq_160_2, bq_160_3, bq_160_4, bq_160_5, bq_160_6, bq_160_7, bq_145_0, bq_147_0, fb_s, fb_n, fb_0, fn_b0, fn_b01, and_self, and_true, true_and, and_false, false_and, not_true_eq_false, not_false_eq_true, if_true, if_false, cond_true, cond_false, true_or, or_true, fu_row, fu_at, fu_ne, fw_33, fw_151, e2, e3, h1, c0, i0, g5, g6, k1, k2, k3, k4]
            exact ⟨_, n, np, t, _, _, rfl, rfl, ⟨rfl, rfl⟩, ⟨h.court, fn_lb h.land (fi_l k1 (fi_g k2)) (fi_l k3 k4), h.cal, ⟨n1, n2, n3, rfl, n5, n6⟩, h.rest⟩⟩
          · simp (disch := decide) only [bq_112_0, bq_112_1, bq_112_2, bq_112_3, bq_112_4, bq_112_5, bq_112_6, bq_112_7, bq_138_0, bq_139_0, bq_160_0, bq_160_1, bq_160_2, bq_160_3, bq_160_4, bq_160_5, bq_160_6, bq_160_7, bq_145_0, bq_147_0, fb_s, fb_n, fb_0, fn_b0, fn_b01, and_self, and_true, true_and, and_false, false_and, not_true_eq_false, not_false_eq_true, if_true, if_false, cond_true, cond_false, true_or, or_true, fu_row, fu_at, fu_ne, fw_33, fw_151, e2, e3, h1, c0, i0, g5, g6, k1, k2, k3, k4]
            exact ⟨_, n, np, t, _, _, rfl, rfl, ⟨rfl, rfl⟩, h.no 2⟩
  · simp (disch := decide) only [bq_112_0, bq_112_1, bq_112_2, bq_112_3, bq_112_4, bq_112_5, bq_112_6, bq_112_7, bq_138_0, bq_139_0, bq_160_0, bq_160_1, bq_160_2, bq_160_3, bq_160_4, bq_160_5, bq_160_6, bq_160_7, bq_145_0, bq_147_0, fb_s, fb_n, fb_0, fn_b0, fn_b01, and_self, and_true, true_and, and_false, false_and, not_true_eq_false, not_false_eq_true, if_true, if_false, cond_true, cond_false, true_or, or_true, fu_row, fu_at, fu_ne, fw_33, fw_151, e2, e3, h1]
    exact ⟨_, n, np, t, _, _, rfl, rfl, ⟨rfl, rfl⟩, h.no 1⟩
