/-! about a place -/
set_option maxHeartbeats 2000000 in
theorem ft_127 {n np t : Nat} {M MM : Nat → Nat → Int32} (h : fn_I n np t M MM) (a b : Int32) : fn_S 127 200 [.int a, .int b] M MM := by
  intro al am kl N
  obtain ⟨e1, e2, e3⟩ := h.land.1
  rw [show ai_ent (ai_mx 127) [.ref 0, .int a, .int b] = [.ref 0, .int a, .int b] from rfl, show ai_ent (ai_mx 200) [.ref 0, .int a, .int b] = [.ref 0, .int a, .int b] from rfl]
  by_cases h1 : 0 ≤ a ∧ a < nI np
  · obtain ⟨p, p1, p2⟩ := fi_of (by omega) h1
    have c0 : a.toNatClampNeg = p := by rw [p2]; exact nI_clamp (by omega)
    have i0 : ai_in a 9 = true := by rw [p2, fi_in (by omega)]; exact decide_eq_true (by omega)
    by_cases hs : b.toInt < (0 : Int) ∨ (4 : Int) < b.toInt
    · simp (disch := decide) only [bq_127_0, bq_127_1, bq_127_2, bq_127_3, bq_127_4, bq_40_0, bq_40_1, bq_40_2, bq_40_3, bq_40_4, bq_40_5, bq_40_6, bq_40_7, bq_40_8, bq_200_0, bq_200_1, bq_200_2, bq_200_3, bq_200_4, bq_200_5, bq_200_6, bq_200_7, bq_200_8, fb_s, fb_n, fb_0, fn_b0, fn_b01, and_self, and_true, true_and, and_false, false_and, not_true_eq_false, not_false_eq_true, if_true, if_false, cond_true, cond_false, true_or, or_true, fu_row, fu_at, fu_ne, fw_33, fw_151, e2, e3, h1, hs]
      exact ⟨_, n, np, t, _, _, rfl, rfl, ⟨rfl, rfl⟩, h.z⟩
    · rcases (show b.toInt = 0 ∨ b.toInt = 1 ∨ b.toInt = 2 ∨ b.toInt = 3 ∨ b.toInt = 4 by omega) with hk | hk | hk | hk | hk
      · have g : ([3, 4, 5, 6, 7] : List Nat).getD (b.toInt - 0).toNat 0 = 3 := by rw [hk]; rfl
        have g5 := (h.land.2.1 p (by omega)).1
        simp (disch := decide) only [bq_127_0, bq_127_1, bq_127_2, bq_127_3, bq_127_4, bq_40_0, bq_40_1, bq_40_2, bq_40_3, bq_40_4, bq_40_5, bq_40_6, bq_40_7, bq_40_8, bq_200_0, bq_200_1, bq_200_2, bq_200_3, bq_200_4, bq_200_5, bq_200_6, bq_200_7, bq_200_8, fb_s, fb_n, fb_0, fn_b0, fn_b01, and_self, and_true, true_and, and_false, false_and, not_true_eq_false, not_false_eq_true, if_true, if_false, cond_true, cond_false, true_or, or_true, fu_row, fu_at, fu_ne, fw_33, fw_151, e2, e3, h1, c0, i0, hs, g, g5]
        exact ⟨_, n, np, t, _, _, rfl, rfl, ⟨rfl, rfl⟩, h.z⟩
      · have g : ([3, 4, 5, 6, 7] : List Nat).getD (b.toInt - 0).toNat 0 = 4 := by rw [hk]; rfl
        have g5 := (h.land.2.1 p (by omega)).2.1
        simp (disch := decide) only [bq_127_0, bq_127_1, bq_127_2, bq_127_3, bq_127_4, bq_40_0, bq_40_1, bq_40_2, bq_40_3, bq_40_4, bq_40_5, bq_40_6, bq_40_7, bq_40_8, bq_200_0, bq_200_1, bq_200_2, bq_200_3, bq_200_4, bq_200_5, bq_200_6, bq_200_7, bq_200_8, fb_s, fb_n, fb_0, fn_b0, fn_b01, and_self, and_true, true_and, and_false, false_and, not_true_eq_false, not_false_eq_true, if_true, if_false, cond_true, cond_false, true_or, or_true, fu_row, fu_at, fu_ne, fw_33, fw_151, e2, e3, h1, c0, i0, hs, g, g5]
        exact ⟨_, n, np, t, _, _, rfl, rfl, ⟨rfl, rfl⟩, h.z⟩
      · have g : ([3, 4, 5, 6, 7] : List Nat).getD (b.toInt - 0).toNat 0 = 5 := by rw [hk]; rfl
        have g5 := (h.land.2.1 p (by omega)).2.2.2.1
        simp (disch := decide) only [bq_127_0, bq_127_1, bq_127_2, bq_127_3, bq_127_4, bq_40_0, bq_40_1, bq_40_2, bq_40_3, bq_40_4, bq_40_5, bq_40_6, bq_40_7, bq_40_8, bq_200_0, bq_200_1, bq_200_2, bq_200_3, bq_200_4, bq_200_5, bq_200_6, bq_200_7, bq_200_8, fb_s, fb_n, fb_0, fn_b0, fn_b01, and_self, and_true, true_and, and_false, false_and, not_true_eq_false, not_false_eq_true, if_true, if_false, cond_true, cond_false, true_or, or_true, fu_row, fu_at, fu_ne, fw_33, fw_151, e2, e3, h1, c0, i0, hs, g, g5]
        exact ⟨_, n, np, t, _, _, rfl, rfl, ⟨rfl, rfl⟩, h.z⟩
      · have g : ([3, 4, 5, 6, 7] : List Nat).getD (b.toInt - 0).toNat 0 = 6 := by rw [hk]; rfl
        have g5 := (h.land.2.1 p (by omega)).2.2.2.2.2
        simp (disch := decide) only [bq_127_0, bq_127_1, bq_127_2, bq_127_3, bq_127_4, bq_40_0, bq_40_1, bq_40_2, bq_40_3, bq_40_4, bq_40_5, bq_40_6, bq_40_7, bq_40_8, bq_200_0, bq_200_1, bq_200_2, bq_200_3, bq_200_4, bq_200_5, bq_200_6, bq_200_7, bq_200_8, fb_s, fb_n, fb_0, fn_b0, fn_b01, and_self, and_true, true_and, and_false, false_and, not_true_eq_false, not_false_eq_true, if_true, if_false, cond_true, cond_false, true_or, or_true, fu_row, fu_at, fu_ne, fw_33, fw_151, e2, e3, h1, c0, i0, hs, g, g5]
        exact ⟨_, n, np, t, _, _, rfl, rfl, ⟨rfl, rfl⟩, h.z⟩
      · have g : ([3, 4, 5, 6, 7] : List Nat).getD (b.toInt - 0).toNat 0 = 7 := by rw [hk]; rfl
        have g5 := (h.land.2.1 p (by omega)).2.2.2.2.1
        simp (disch := decide) only [bq_127_0, bq_127_1, bq_127_2, bq_127_3, bq_127_4, bq_40_0, bq_40_1, bq_40_2, bq_40_3, bq_40_4, bq_40_5, bq_40_6, bq_40_7, bq_40_8, bq_200_0, bq_200_1, bq_200_2, bq_200_3, bq_200_4, bq_200_5, bq_200_6, bq_200_7, bq_200_8, fb_s, fb_n, fb_0, fn_b0, fn_b01, and_self, and_true, true_and, and_false, false_and, not_true_eq_false, not_false_eq_true, if_true, if_false, cond_true, cond_false, true_or, or_true, fu_row, fu_at, fu_ne, fw_33, fw_151, e2, e3, h1, c0, i0, hs, g, g5]
        exact ⟨_, n, np, t, _, _, rfl, rfl, ⟨rfl, rfl⟩, h.z⟩
  · simp (disch := decide) only [bq_127_0, bq_127_1, bq_127_2, bq_127_3, bq_127_4, bq_40_0, bq_40_1, bq_40_2, bq_40_3, bq_40_4, bq_40_5, bq_40_6, bq_40_7, bq_40_8, bq_200_0, bq_200_1, bq_200_2, bq_200_3, bq_200_4, bq_200_5, bq_200_6, bq_200_7, bq_200_8, fb_s, fb_n, fb_0, fn_b0, fn_b01, and_self, and_true, true_and, and_false, false_and, not_true_eq_false, not_false_eq_true, if_true, if_false, cond_true, cond_false, true_or, or_true, fu_row, fu_at, fu_ne, fw_33, fw_151, e2, e3, h1]
    exact ⟨_, n, np, t, _, _, rfl, rfl, ⟨rfl, rfl⟩, h.z⟩
