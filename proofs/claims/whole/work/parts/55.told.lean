/-! lodged; at -/
theorem fi_cmp {a b : Nat} (ha : a < 2 ^ 31) (hb : b < 2 ^ 31) : (nI a < nI b ↔ a < b) := by
  rw [Int32.lt_iff_toInt_lt, nI_toInt ha, nI_toInt hb]
  omega
theorem ft_121 {n np t : Nat} {M MM : Nat → Nat → Int32} (h : fn_I n np t M MM) (x : Int32) : fn_S 121 189 [.int x] M MM := by
  intro al am kl N
  obtain ⟨-, k, k1, k2, k3, k4⟩ := h.ldg
  rw [show ai_ent (ai_mx 121) [.ref 0, .int x] = [.ref 0, .int x] from rfl, show ai_ent (ai_mx 189) [.ref 0, .int x] = [.ref 0, .int x] from rfl]
  by_cases g1 : x < 0
  · have h1 : ¬ (0 ≤ x ∧ x ≤ 7) := fun q => Int32.not_le.mpr g1 q.1
    simp (disch := decide) only [bq_121_0, bq_121_1, bq_121_2, bq_121_3, bq_189_0, bq_189_1, bq_189_2, fb_s, fb_n, fb_0, fn_b0, fn_b01, and_self, and_true, true_and, and_false, false_and, not_true_eq_false, not_false_eq_true, if_true, if_false, cond_true, cond_false, true_or, or_true, fu_row, fu_at, fu_ne, fw_142, h1, g1]
    exact ⟨_, n, np, t, _, _, rfl, rfl, ⟨rfl, rfl⟩, h.z⟩
  · by_cases h1 : 0 ≤ x ∧ x ≤ 7
    · have h2 : 0 ≤ x ∧ x < nI 8 := ⟨h1.1, Int32.lt_of_le_of_lt h1.2 (by decide)⟩
      obtain ⟨p, p1, p2⟩ := fi_of (by omega) h2
      have c0 : x.toNatClampNeg = p := by rw [p2]; exact nI_clamp (by omega)
      have i0 : ai_in x 8 = true := by rw [p2, fi_in (by omega)]; exact decide_eq_true (by omega)
      by_cases hk : p < k
      · have g2 : ¬ nI k ≤ x := by rw [p2]; exact nI_ge hk (by omega)
        have g3 := k3 p hk
        simp (disch := decide) only [bq_121_0, bq_121_1, bq_121_2, bq_121_3, bq_189_0, bq_189_1, bq_189_2, fb_s, fb_n, fb_0, fn_b0, fn_b01, and_self, and_true, true_and, and_false, false_and, not_true_eq_false, not_false_eq_true, if_true, if_false, cond_true, cond_false, true_or, or_true, fu_row, fu_at, fu_ne, fw_142, h1, g1, g2, c0, i0, g3, k2]
        exact ⟨_, n, np, t, _, _, rfl, rfl, ⟨rfl, rfl⟩, h.z⟩
      · have g2 : nI k ≤ x := by rw [p2]; exact nI_le (by omega) (by omega)
        have g3 := k4 p (by omega) p1
        simp (disch := decide) only [bq_121_0, bq_121_1, bq_121_2, bq_121_3, bq_189_0, bq_189_1, bq_189_2, fb_s, fb_n, fb_0, fn_b0, fn_b01, and_self, and_true, true_and, and_false, false_and, not_true_eq_false, not_false_eq_true, if_true, if_false, cond_true, cond_false, true_or, or_true, fu_row, fu_at, fu_ne, fw_142, h1, g1, g2, c0, i0, g3, k2]
        exact ⟨_, n, np, t, _, _, rfl, rfl, ⟨rfl, rfl⟩, h.z⟩
    · have g2 : nI k ≤ x := Int32.le_trans (nI_le (b := 8) k1 (by omega)) (Int32.not_lt.mp (fun q => by
        obtain ⟨p, p1, p2⟩ := fi_of (n := 8) (by omega) ⟨Int32.not_lt.mp g1, q⟩
        exact h1 ⟨Int32.not_lt.mp g1, by rw [p2]; exact nI_le (b := 7) (by omega) (by omega)⟩))
      simp (disch := decide) only [bq_121_0, bq_121_1, bq_121_2, bq_121_3, bq_189_0, bq_189_1, bq_189_2, fb_s, fb_n, fb_0, fn_b0, fn_b01, and_self, and_true, true_and, and_false, false_and, not_true_eq_false, not_false_eq_true, if_true, if_false, cond_true, cond_false, true_or, or_true, fu_row, fu_at, fu_ne, fw_142, h1, g1, g2, k2]
      exact ⟨_, n, np, t, _, _, rfl, rfl, ⟨rfl, rfl⟩, h.z⟩
theorem ft_124 {n np t : Nat} {M MM : Nat → Nat → Int32} (h : fn_I n np t M MM) (x : Int32) : fn_S 124 197 [.int x] M MM := by
  intro al am kl N
  obtain ⟨f, k, f1, k1, e1, e2, e3, e4, e5⟩ := h.told
  rw [show ai_ent (ai_mx 124) [.ref 0, .int x] = [.ref 0, .int x] from rfl, show ai_ent (ai_mx 197) [.ref 0, .int x] = [.ref 0, .int x] from rfl]
  by_cases g1 : x < nI f
  · simp (disch := decide) only [bq_124_0, bq_124_1, bq_47_0, bq_47_1, bq_47_2, bq_47_3, bq_47_4, bq_197_0, bq_197_1, bq_197_2, fb_s, fb_n, fb_0, fn_b0, fn_b01, and_self, and_true, true_and, and_false, false_and, not_true_eq_false, not_false_eq_true, if_true, if_false, cond_true, cond_false, true_or, or_true, fu_row, fu_at, fu_ne, e1, e3, g1]
    exact ⟨_, n, np, t, _, _, rfl, rfl, ⟨rfl, rfl⟩, h.z⟩
  · have x0 : 0 ≤ x := Int32.le_trans (nI_pos' (n := f) (by omega)) (Int32.not_lt.mp g1)
    by_cases g2 : nI (f + k) ≤ x
    · have g4 : nI (f + k) - 1 < x := by
        rw [Int32.lt_iff_toInt_lt]
        have g2' := Int32.le_iff_toInt_le.mp g2
        rw [nI_toInt (by omega)] at g2'
        have := pk_sub_toInt (a := f + k) (b := 1) (by omega) (by omega)
        rw [show (nI (f + k) - 1) = nI (f + k) - nI 1 from rfl, this]
        omega
      simp (disch := decide) only [bq_124_0, bq_124_1, bq_47_0, bq_47_1, bq_47_2, bq_47_3, bq_47_4, bq_197_0, bq_197_1, bq_197_2, fb_s, fb_n, fb_0, fn_b0, fn_b01, and_self, and_true, true_and, and_false, false_and, not_true_eq_false, not_false_eq_true, if_true, if_false, cond_true, cond_false, true_or, or_true, fu_row, fu_at, fu_ne, e1, e2, e3, e4, nI_add, g1, g2, g4]
      exact ⟨_, n, np, t, _, _, rfl, rfl, ⟨rfl, rfl⟩, h.z⟩
    · obtain ⟨p, p1, p2⟩ := fi_of (n := f + k) (by omega) ⟨x0, Int32.not_le.mp g2⟩
      have hfp : f ≤ p := by
        rw [p2] at g1
        exact (nI_leI (by omega) (by omega)).mp (Int32.not_lt.mp g1)
      have g4 : ¬ nI (f + k) - 1 < x := by
        rw [Int32.lt_iff_toInt_lt, p2, nI_toInt (by omega)]
        have := pk_sub_toInt (a := f + k) (b := 1) (by omega) (by omega)
        rw [show (nI (f + k) - 1) = nI (f + k) - nI 1 from rfl, this]
        omega
      have g5 : x - nI f = nI (p - f) := by rw [p2]; exact pk_sub hfp
      have g6 : ¬ (21 : Int32) ≤ nI (p - f) := fun q => absurd ((nI_leI (a := 21) (by omega) (by omega)).mp q) (by omega)
      have i0 : ai_in (nI (p - f)) 21 = true := by rw [fi_in (by omega)]; exact decide_eq_true (by omega)
      have c0 : (nI (p - f)).toNatClampNeg = p - f := nI_clamp (by omega)
      have e6 := e5 (p - f) (by omega)
      have o1 : ¬ (1 : Int32) = 0 := by decide
      simp (disch := decide) only [bq_124_0, bq_124_1, bq_47_0, bq_47_1, bq_47_2, bq_47_3, bq_47_4, bq_197_0, bq_197_1, bq_197_2, fb_s, fb_n, fb_0, fn_b0, fn_b01, and_self, and_true, true_and, and_false, false_and, not_true_eq_false, not_false_eq_true, if_true, if_false, cond_true, cond_false, true_or, or_true, fu_row, fu_at, fu_ne, e1, e2, e3, e4, nI_add, g1, g2, g4, g5, g6, i0, c0, e6, o1]
      exact ⟨_, n, np, t, _, _, rfl, rfl, ⟨rfl, rfl⟩, h.z⟩
