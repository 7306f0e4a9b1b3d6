/-! feasts -/
theorem fn_cnt_out {f : Nat → Int32} {p : Nat} {v : Int32} : ∀ k : Nat, k ≤ p → fn_cnt (upd f p v) k = fn_cnt f k
  | 0, _ => rfl
  | k + 1, h => by
    show fn_cnt (upd f p v) k + _ = fn_cnt f k + _
    rw [fn_cnt_out k (by omega), pk_un (by omega)]
theorem fn_cnt_upd {f : Nat → Int32} {p : Nat} {v : Int32} : ∀ k : Nat, p < k → fn_cnt (upd f p v) k + (if f p = -1 then 0 else 1) = fn_cnt f k + (if v = -1 then 0 else 1)
  | 0, h => absurd h (by omega)
  | k + 1, h => by
    show fn_cnt (upd f p v) k + (if upd f p v k = -1 then 0 else 1) + _ = fn_cnt f k + (if f k = -1 then 0 else 1) + _
    by_cases hk : p = k
    · subst hk
      rw [fn_cnt_out p (Nat.le_refl _), pk_us]
      omega
    · have := fn_cnt_upd (f := f) (v := v) k (show p < k by omega)
      rw [pk_un (Ne.symm hk)]
      omega
theorem fn_cf {np p q r : Nat} {c2 c2' : Int32} {r21 r22 : Nat → Int32} {m6 m6' : Int32} {s15 s16 : Nat → Int32} {b : Int32} (h : fn_cal np c2 r21 r22 m6 s15 s16) (hq : c2 = nI q ∧ q ≤ 8) (hb : b = -1 ∨ ∃ q : Nat, q < np ∧ b = nI q) (hp : p < 200) (h8 : r ≤ 8) (hc : c2' = nI r) (hm : m6' = nI r) (hr : r + (if r22 p = -1 then 0 else 1) = q + (if b = -1 then 0 else 1)) : fn_cal np c2' r21 (upd r22 p b) m6' s15 (upd s16 p b) := by
  obtain ⟨⟨q', h1, h2, h3, h4⟩, h5⟩ := h
  have e : q' = q := (nI_eq (by omega) (by omega)).mp (h2.symm.trans hq.1)
  subst e
  refine ⟨⟨r, h8, hc, hm, ?_⟩, fun j hj => ?_⟩
  · have := fn_cnt_upd (f := r22) (v := b) 200 hp
    omega
  · obtain ⟨a1, a2, a3, a4⟩ := h5 j hj
    by_cases hk : j = p
    · subst hk; rw [pk_us, pk_us]; exact ⟨a1, rfl, a3, hb⟩
    · rw [pk_un hk, pk_un hk]; exact ⟨a1, a2, a3, a4⟩
theorem fn_cnt_pos {f : Nat → Int32} {p : Nat} (hf : ¬ f p = -1) : ∀ k : Nat, p < k → 1 ≤ fn_cnt f k
  | 0, h => absurd h (by omega)
  | k + 1, h => by
    show 1 ≤ fn_cnt f k + (if f k = -1 then 0 else 1)
    by_cases hk : p = k
    · subst hk; rw [if_neg hf]; omega
    · have := fn_cnt_pos hf k (by omega)
      omega
theorem fi_f (r : Nat) : nI (r + 1) + ((0 : Int32) - 1) = nI r := by
  rw [show ((0 : Int32) - 1) = -1 from by decide]
  exact pk_m1 r
theorem fi_f0 (r : Nat) : nI r + ((0 : Int32) - 0) = nI r ∧ nI r + ((1 : Int32) - 1) = nI r ∧ nI r + ((1 : Int32) - 0) = nI (r + 1) := by
  refine ⟨?_, ?_, ?_⟩
  · rw [show ((0 : Int32) - 0) = nI 0 from by decide, nI_add]; rfl
  · rw [show ((1 : Int32) - 1) = nI 0 from by decide, nI_add]; rfl
  · rw [show ((1 : Int32) - 0) = nI 1 from by decide, nI_add]
set_option maxHeartbeats 2000000 in
theorem ft_111 {n np t : Nat} {M MM : Nat → Nat → Int32} (h : fn_I n np t M MM) (a b : Int32) : fn_S 111 159 [.int a, .int b] M MM := by
  intro al am kl N
  obtain ⟨e1, e2, e3⟩ := h.land.1
  obtain ⟨n1, n2, n3, n4, n5, n6⟩ := h.now
  obtain ⟨⟨q, q1, q2, q3, q4⟩, hcal⟩ := id h.cal
  rw [show ai_ent (ai_mx 111) [.ref 0, .int a, .int b] = [.ref 0, .int a, .int b] from rfl, show ai_ent (ai_mx 159) [.ref 0, .int a, .int b] = [.ref 0, .int a, .int b] from rfl]
  by_cases h2 : 0 ≤ a ∧ a < 200
  · obtain ⟨p, p1, p2⟩ := fi_of (n := 200) (by omega) h2
    have c0 : a.toNatClampNeg = p := by rw [p2]; exact nI_clamp (by omega)
    have i0 : ai_in a 200 = true := by rw [p2, fi_in (by omega)]; exact decide_eq_true (by omega)
    have g5 : MM 16 p = M 22 p := (hcal p p1).2.1.symm
    by_cases hb : b = -1
    · by_cases hf : M 22 p = -1
      · simp (disch := decide) only [bq_111_0, bq_111_1, bq_111_2, bq_111_3, bq_111_4, bq_111_5, bq_111_6, bq_111_7, bq_111_8, bq_111_9, bq_111_10, bq_111_11, bq_3_0, bq_3_1, bq_3_2, bq_3_3, bq_4_0, bq_4_1, bq_4_2, bq_4_3, bq_4_4, bq_5_0, bq_5_1, bq_5_2, bq_5_3, bq_5_4, bq_138_0, bq_139_0, bq_159_0, bq_159_1, bq_159_2, bq_159_3, bq_159_4, bq_159_5, bq_159_6, bq_159_7, bq_159_8, bq_159_9, bq_159_10, bq_159_11, bq_159_12, bq_159_13, bq_145_0, bq_147_0, fb_s, fb_n, fb_0, fn_b0, fn_b01, and_self, and_true, true_and, and_false, false_and, not_true_eq_false, not_false_eq_true, if_true, if_false, cond_true, cond_false, true_or, or_true, fu_row, fu_at, fu_ne, fw_33, fw_151, fw_141, fw_152, e2, e3, h2, hb, c0, i0, g5, hf, q2, q3, fi_f0]
        exact ⟨_, n, np, t, _, _, rfl, rfl, ⟨rfl, rfl⟩, ⟨h.court, h.land, fn_cf (r22 := M 22) h.cal ⟨q2, q1⟩ (Or.inl rfl) p1 q1 q2 rfl (by simp [hf]), ⟨n1, n2, n3, rfl, n5, n6⟩, h.rest⟩⟩
      · have hq0 := fn_cnt_pos hf 200 p1
        obtain ⟨r, rfl⟩ : ∃ r, q = r + 1 := ⟨q - 1, by omega⟩
        simp (disch := decide) only [bq_111_0, bq_111_1, bq_111_2, bq_111_3, bq_111_4, bq_111_5, bq_111_6, bq_111_7, bq_111_8, bq_111_9, bq_111_10, bq_111_11, bq_3_0, bq_3_1, bq_3_2, bq_3_3, bq_4_0, bq_4_1, bq_4_2, bq_4_3, bq_4_4, bq_5_0, bq_5_1, bq_5_2, bq_5_3, bq_5_4, bq_138_0, bq_139_0, bq_159_0, bq_159_1, bq_159_2, bq_159_3, bq_159_4, bq_159_5, bq_159_6, bq_159_7, bq_159_8, bq_159_9, bq_159_10, bq_159_11, bq_159_12, bq_159_13, bq_145_0, bq_147_0, fb_s, fb_n, fb_0, fn_b0, fn_b01, and_self, and_true, true_and, and_false, false_and, not_true_eq_false, not_false_eq_true, if_true, if_false, cond_true, cond_false, true_or, or_true, fu_row, fu_at, fu_ne, fw_33, fw_151, fw_141, fw_152, e2, e3, h2, hb, c0, i0, g5, hf, q2, q3, fi_f, nI_pred]
        exact ⟨_, n, np, t, _, _, rfl, rfl, ⟨rfl, rfl⟩, ⟨h.court, h.land, fn_cf (r22 := M 22) h.cal ⟨q2, q1⟩ (Or.inl rfl) p1 (r := r) (by omega) rfl rfl (by simp [hf]), ⟨n1, n2, n3, rfl, n5, n6⟩, h.rest⟩⟩
    · by_cases h1 : 0 ≤ b ∧ b < nI np
      · have hb2 : b = -1 ∨ ∃ q : Nat, q < np ∧ b = nI q := Or.inr (fi_of (by omega) h1)
        by_cases hf : M 22 p = -1
        · by_cases h8 : q < 8
          · have k1 : nI q < 8 := nI_lt (b := 8) h8 (by omega)
            have k2 : ¬ nI q = 8 := fun r => absurd ((nI_eq (b := 8) (by omega) (by omega)).mp r) (by omega)
            simp (disch := decide) only [bq_111_0, bq_111_1, bq_111_2, bq_111_3, bq_111_4, bq_111_5, bq_111_6, bq_111_7, bq_111_8, bq_111_9, bq_111_10, bq_111_11, bq_3_0, bq_3_1, bq_3_2, bq_3_3, bq_4_0, bq_4_1, bq_4_2, bq_4_3, bq_4_4, bq_5_0, bq_5_1, bq_5_2, bq_5_3, bq_5_4, bq_138_0, bq_139_0, bq_159_0, bq_159_1, bq_159_2, bq_159_3, bq_159_4, bq_159_5, bq_159_6, bq_159_7, bq_159_8, bq_159_9, bq_159_10, bq_159_11, bq_159_12, bq_159_13, bq_145_0, bq_147_0, fb_s, fb_n, fb_0, fn_b0, fn_b01, and_self, and_true, true_and, and_false, false_and, not_true_eq_false, not_false_eq_true, if_true, if_false, cond_true, cond_false, true_or, or_true, fu_row, fu_at, fu_ne, fw_33, fw_151, fw_141, fw_152, e2, e3, h1, h2, hb, c0, i0, g5, hf, q2, q3, k1, k2, fi_f0, nI_1]
            exact ⟨_, n, np, t, _, _, rfl, rfl, ⟨rfl, rfl⟩, ⟨h.court, h.land, fn_cf (r22 := M 22) h.cal ⟨q2, q1⟩ hb2 p1 (r := q + 1) (by omega) rfl rfl (by simp [hf, hb]), ⟨n1, n2, n3, rfl, n5, n6⟩, h.rest⟩⟩
          · have hq8 : q = 8 := by omega
            rw [hq8] at q2 q3
            have k1 : ¬ (8 : Int32) < 8 := by decide
            have k2 : nI 8 = 8 := rfl
            simp (disch := decide) only [bq_111_0, bq_111_1, bq_111_2, bq_111_3, bq_111_4, bq_111_5, bq_111_6, bq_111_7, bq_111_8, bq_111_9, bq_111_10, bq_111_11, bq_3_0, bq_3_1, bq_3_2, bq_3_3, bq_4_0, bq_4_1, bq_4_2, bq_4_3, bq_4_4, bq_5_0, bq_5_1, bq_5_2, bq_5_3, bq_5_4, bq_138_0, bq_139_0, bq_159_0, bq_159_1, bq_159_2, bq_159_3, bq_159_4, bq_159_5, bq_159_6, bq_159_7, bq_159_8, bq_159_9, bq_159_10, bq_159_11, bq_159_12, bq_159_13, bq_145_0, bq_147_0, fb_s, fb_n, fb_0, fn_b0, fn_b01, and_self, and_true, true_and, and_false, false_and, not_true_eq_false, not_false_eq_true, if_true, if_false, cond_true, cond_false, true_or, or_true, fu_row, fu_at, fu_ne, fw_33, fw_151, fw_141, fw_152, e2, e3, h1, h2, hb, c0, i0, g5, hf, q2, q3, k1, k2]
            exact ⟨_, n, np, t, _, _, rfl, rfl, ⟨rfl, rfl⟩, h.no 3⟩
        · have hq0 := fn_cnt_pos hf 200 p1
          obtain ⟨r, rfl⟩ : ∃ r, q = r + 1 := ⟨q - 1, by omega⟩
          by_cases k1 : nI (r + 1) < 8
          · simp (disch := decide) only [bq_111_0, bq_111_1, bq_111_2, bq_111_3, bq_111_4, bq_111_5, bq_111_6, bq_111_7, bq_111_8, bq_111_9, bq_111_10, bq_111_11, bq_3_0, bq_3_1, bq_3_2, bq_3_3, bq_4_0, bq_4_1, bq_4_2, bq_4_3, bq_4_4, bq_5_0, bq_5_1, bq_5_2, bq_5_3, bq_5_4, bq_138_0, bq_139_0, bq_159_0, bq_159_1, bq_159_2, bq_159_3, bq_159_4, bq_159_5, bq_159_6, bq_159_7, bq_159_8, bq_159_9, bq_159_10, bq_159_11, bq_159_12, bq_159_13, bq_145_0, bq_147_0, fb_s, fb_n, fb_0, fn_b0, fn_b01, and_self, and_true, true_and, and_false, false_and, not_true_eq_false, not_false_eq_true, if_true, if_false, cond_true, cond_false, true_or, or_true, fu_row, fu_at, fu_ne, fw_33, fw_151, fw_141, fw_152, e2, e3, h1, h2, hb, c0, i0, g5, hf, q2, q3, k1, fi_f0, nI_pred, nI_1]
            exact ⟨_, n, np, t, _, _, rfl, rfl, ⟨rfl, rfl⟩, ⟨h.court, h.land, fn_cf (r22 := M 22) h.cal ⟨q2, q1⟩ hb2 p1 (r := r + 1) (by omega) rfl rfl (by simp [hf, hb]), ⟨n1, n2, n3, rfl, n5, n6⟩, h.rest⟩⟩
          · simp (disch := decide) only [bq_111_0, bq_111_1, bq_111_2, bq_111_3, bq_111_4, bq_111_5, bq_111_6, bq_111_7, bq_111_8, bq_111_9, bq_111_10, bq_111_11, bq_3_0, bq_3_1, bq_3_2, bq_3_3, bq_4_0, bq_4_1, bq_4_2, bq_4_3, bq_4_4, bq_5_0, bq_5_1, bq_5_2, bq_5_3, bq_5_4, bq_138_0, bq_139_0, bq_159_0, bq_159_1, bq_159_2, bq_159_3, bq_159_4, bq_159_5, bq_159_6, bq_159_7, bq_159_8, bq_159_9, bq_159_10, bq_159_11, bq_159_12, bq_159_13, bq_145_0, bq_147_0, fb_s, fb_n, fb_0, fn_b0, fn_b01, and_self, and_true, true_and, and_false, false_and, not_true_eq_false, not_false_eq_true, if_true, if_false, cond_true, cond_false, true_or, or_true, fu_row, fu_at, fu_ne, fw_33, fw_151, fw_141, fw_152, e2, e3, h1, h2, hb, c0, i0, g5, hf, q2, q3, k1, fi_f0, nI_pred, nI_1]
            exact ⟨_, n, np, t, _, _, rfl, rfl, ⟨rfl, rfl⟩, ⟨h.court, h.land, fn_cf (r22 := M 22) h.cal ⟨q2, q1⟩ hb2 p1 (r := r + 1) (by omega) rfl rfl (by simp [hf, hb]), ⟨n1, n2, n3, rfl, n5, n6⟩, h.rest⟩⟩
      · simp (disch := decide) only [bq_111_0, bq_111_1, bq_111_2, bq_111_3, bq_111_4, bq_111_5, bq_111_6, bq_111_7, bq_111_8, bq_111_9, bq_111_10, bq_111_11, bq_3_0, bq_3_1, bq_3_2, bq_3_3, bq_4_0, bq_4_1, bq_4_2, bq_4_3, bq_4_4, bq_5_0, bq_5_1, bq_5_2, bq_5_3, bq_5_4, bq_138_0, bq_139_0, bq_159_0, bq_159_1, bq_159_2, bq_159_3, bq_159_4, bq_159_5, bq_159_6, bq_159_7, bq_159_8, bq_159_9, bq_159_10, bq_159_11, bq_159_12, bq_159_13, bq_145_0, bq_147_0, fb_s, fb_n, fb_0, fn_b0, fn_b01, and_self, and_true, true_and, and_false, false_and, not_true_eq_false, not_false_eq_true, if_true, if_false, cond_true, cond_false, true_or, or_true, fu_row, fu_at, fu_ne, fw_33, fw_151, fw_141, fw_152, e2, e3, h1, h2, hb]
        exact ⟨_, n, np, t, _, _, rfl, rfl, ⟨rfl, rfl⟩, h.no 1⟩
  · by_cases hb : b = -1
    · simp (disch := decide) only [bq_111_0, bq_111_1, bq_111_2, bq_111_3, bq_111_4, bq_111_5, bq_111_6, bq_111_7, bq_111_8, bq_111_9, bq_111_10, bq_111_11, bq_3_0, bq_3_1, bq_3_2, bq_3_3, bq_4_0, bq_4_1, bq_4_2, bq_4_3, bq_4_4, bq_5_0, bq_5_1, bq_5_2, bq_5_3, bq_5_4, bq_138_0, bq_139_0, bq_159_0, bq_159_1, bq_159_2, bq_159_3, bq_159_4, bq_159_5, bq_159_6, bq_159_7, bq_159_8, bq_159_9, bq_159_10, bq_159_11, bq_159_12, bq_159_13, bq_145_0, bq_147_0, fb_s, fb_n, fb_0, fn_b0, fn_b01, and_self, and_true, true_and, and_false, false_and, not_true_eq_false, not_false_eq_true, if_true, if_false, cond_true, cond_false, true_or, or_true, fu_row, fu_at, fu_ne, fw_33, fw_151, fw_141, fw_152, e2, e3, h2, hb]
      exact ⟨_, n, np, t, _, _, rfl, rfl, ⟨rfl, rfl⟩, h.no 2⟩
    · by_cases h1 : 0 ≤ b ∧ b < nI np
      · simp (disch := decide) only [bq_111_0, bq_111_1, bq_111_2, bq_111_3, bq_111_4, bq_111_5, bq_111_6, bq_111_7, bq_111_8, bq_111_9, bq_111_10, bq_111_11, bq_3_0, bq_3_1, bq_3_2, bq_3_3, bq_4_0, bq_4_1, bq_4_2, bq_4_3, bq_4_4, bq_5_0, bq_5_1, bq_5_2, bq_5_3, bq_5_4, bq_138_0, bq_139_0, bq_159_0, bq_159_1, bq_159_2, bq_159_3, bq_159_4, bq_159_5, bq_159_6, bq_159_7, bq_159_8, bq_159_9, bq_159_10, bq_159_11, bq_159_12, bq_159_13, bq_145_0, bq_147_0, fb_s, fb_n, fb_0, fn_b0, fn_b01, and_self, and_true, true_and, and_false, false_and, not_true_eq_false, not_false_eq_true, if_true, if_false, cond_true, cond_false, true_or, or_true, fu_row, fu_at, fu_ne, fw_33, fw_151, fw_141, fw_152, e2, e3, h1, h2, hb]
        exact ⟨_, n, np, t, _, _, rfl, rfl, ⟨rfl, rfl⟩, h.no 2⟩
      · simp (disch := decide) only [bq_111_0, bq_111_1, bq_111_2, bq_111_3, bq_111_4, bq_111_5, bq_111_6, bq_111_7, bq_111_8, bq_111_9, bq_111_10, bq_111_11, bq_3_0, bq_3_1, bq_3_2, bq_3_3, bq_4_0, bq_4_1, bq_4_2, bq_4_3, bq_4_4, bq_5_0, bq_5_1, bq_5_2, bq_5_3, bq_5_4, bq_138_0, bq_139_0, bq_159_0, bq_159_1, bq_159_2, bq_159_3, bq_159_4, bq_159_5, bq_159_6, bq_159_7, bq_159_8, bq_159_9, bq_159_10, bq_159_11, bq_159_12, bq_159_13, bq_145_0, bq_147_0, fb_s, fb_n, fb_0, fn_b0, fn_b01, and_self, and_true, true_and, and_false, false_and, not_true_eq_false, not_false_eq_true, if_true, if_false, cond_true, cond_false, true_or, or_true, fu_row, fu_at, fu_ne, fw_33, fw_151, fw_141, fw_152, e2, e3, h1, h2, hb]
        exact ⟨_, n, np, t, _, _, rfl, rfl, ⟨rfl, rfl⟩, h.no 1⟩
