/-! places -/
theorem fn_lp {np : Nat} {M MM : Nat → Nat → Int32} {a b c : Int32} (h : fn_land np (M 9 0) (M 10) (M 11) (M 12) (M 13) (M 14) (M 15) (M 16) (M 17) (M 18) (M 19) (MM 0 5) (MM 5) (MM 6) (MM 7) (MM 8) (MM 9) (MM 10) (MM 11) (MM 12) (MM 13) (MM 14)) (hn : np < 9) (ha : 0 ≤ a ∧ a ≤ 1000000) (hb : 0 ≤ b ∧ b ≤ 1000000) (hc : 0 ≤ c ∧ c ≤ 999) : fn_land (np + 1) (nI (np + 1)) (upd (M 10) np a) (upd (M 11) np b) (upd (M 12) np c) (M 13) (M 14) (M 15) (M 16) (M 17) (M 18) (M 19) (nI (np + 1)) (upd (MM 5) np a) (upd (MM 6) np b) (upd (MM 7) np c) (MM 8) (MM 9) (MM 10) (MM 11) (MM 12) (MM 13) (MM 14) := by
  obtain ⟨⟨h1, h2, h3⟩, h4, h5, h6, h7, h8⟩ := h
  refine ⟨⟨by omega, rfl, rfl⟩, fun j hj => ?_, h5, h6, fun j hj => ?_, h8⟩
  · obtain ⟨e1, e2, e3, e4⟩ := h4 j hj
    by_cases hjn : j = np
    · subst hjn
      exact ⟨by rw [pk_us, pk_us], by rw [pk_us, pk_us], by rw [pk_us, pk_us], e4⟩
    · exact ⟨by rw [pk_un hjn, pk_un hjn]; exact e1, by rw [pk_un hjn, pk_un hjn]; exact e2, by rw [pk_un hjn, pk_un hjn]; exact e3, e4⟩
  · obtain ⟨e1, e2, e3, e4⟩ := h7 j hj
    by_cases hjn : j = np
    · subst hjn
      rw [pk_us, pk_us, pk_us]
      exact ⟨ha, hb, hc, e4⟩
    · rw [pk_un hjn, pk_un hjn, pk_un hjn]
      exact ⟨e1, e2, e3, e4⟩
theorem fi_m1 {n : Nat} (h : n < 2 ^ 31) : ¬ nI n = -1 := by
  intro q
  have := congrArg Int32.toInt q
  rw [nI_toInt h] at this
  have e : (-1 : Int32).toInt = -1 := by decide
  omega
theorem fn_cal.more {np nq : Nat} {c2 : Int32} {r21 r22 : Nat → Int32} {m6 : Int32} {s15 s16 : Nat → Int32} (hn : np ≤ nq) (h : fn_cal np c2 r21 r22 m6 s15 s16) : fn_cal nq c2 r21 r22 m6 s15 s16 :=
  ⟨h.1, fun j hj => ⟨(h.2 j hj).1, (h.2 j hj).2.1, (h.2 j hj).2.2.1, (h.2 j hj).2.2.2.imp id (fun ⟨q, h1, h2⟩ => ⟨q, by omega, h2⟩)⟩⟩
set_option maxHeartbeats 2000000 in
theorem ft_107 {n np t : Nat} {M MM : Nat → Nat → Int32} (h : fn_I n np t M MM) (a b c : Int32) : fn_S 107 155 [.int a, .int b, .int c] M MM := by
  intro al am kl N
  obtain ⟨e1, e2, e3⟩ := h.land.1
  obtain ⟨n1, n2, n3, n4, n5, n6⟩ := h.now
  rw [show ai_ent (ai_mx 107) [.ref 0, .int a, .int b, .int c] = [.ref 0, .int a, .int b, .int c, ai_un] from rfl, show ai_ent (ai_mx 155) [.ref 0, .int a, .int b, .int c] = [.ref 0, .int a, .int b, .int c] from rfl]
  have i1 : ai_in (nI np) 9 = decide (np < 9) := fi_in (by omega)
  have i2 : (nI np).toNatClampNeg = np := nI_clamp (by omega)
  by_cases h1 : (0 ≤ a ∧ a ≤ 1000000)
  · by_cases h2 : (0 ≤ b ∧ b ≤ 1000000)
    · by_cases h3 : (0 ≤ c ∧ c ≤ 999)
      · by_cases hn : np < 9
        · have g1 : nI np < 9 := nI_lt (b := 9) hn (by omega)
          have g2 : ¬ nI np = 9 := fun q => absurd ((nI_eq (b := 9) (by omega) (by omega)).mp q) (by omega)
          rw [decide_eq_true hn] at i1
          by_cases h0 : np = 0
          · have k1 : M 0 13 = -1 := n6.elim (fun q => q.2) (fun ⟨q, h1, _⟩ => absurd h1 (by omega))
            have k2 : nI np = 0 := by rw [h0]; rfl
            simp (disch := decide) only [bq_107_0, bq_107_1, bq_107_2, bq_107_3, bq_107_4, bq_107_5, bq_107_6, bq_107_7, bq_107_8, bq_107_9, bq_107_10, bq_107_11, bq_34_0, bq_34_1, bq_136_0, bq_137_0, bq_155_0, bq_155_1, bq_155_2, bq_155_3, bq_155_4, bq_155_5, bq_155_6, bq_155_7, bq_155_8, bq_155_9, bq_155_10, bq_144_0, bq_146_0, fb_s, fb_n, fb_0, fn_b0, fn_b01, and_self, and_true, true_and, and_false, false_and, not_true_eq_false, not_false_eq_true, if_true, if_false, cond_true, cond_false, true_or, or_true, fu_row, fu_at, fu_ne, fw_142, fw_148, h1, h2, h3, e2, e3, i1, i2, g1, g2, k1, nI_1, nI_pred]
            simp only [k2, if_true]
            exact ⟨_, n, np + 1, t, _, _, rfl, rfl, ⟨rfl, rfl⟩, ⟨h.court, fn_lp h.land hn h1 h2 h3, h.cal.more (by omega), ⟨n1, n2, n3, rfl, rfl, Or.inr ⟨0, by omega, rfl⟩⟩, h.rest⟩⟩
          · obtain ⟨q, q1, q2⟩ : ∃ q : Nat, q < np ∧ M 0 13 = nI q := n6.elim (fun q => absurd q.1 h0) id
            have k1 : ¬ M 0 13 = -1 := by rw [q2]; exact fi_m1 (by omega)
            have k2 : ¬ nI np = 0 := nI_ne0 (by omega) (by omega)
            simp (disch := decide) only [bq_107_0, bq_107_1, bq_107_2, bq_107_3, bq_107_4, bq_107_5, bq_107_6, bq_107_7, bq_107_8, bq_107_9, bq_107_10, bq_107_11, bq_34_0, bq_34_1, bq_136_0, bq_137_0, bq_155_0, bq_155_1, bq_155_2, bq_155_3, bq_155_4, bq_155_5, bq_155_6, bq_155_7, bq_155_8, bq_155_9, bq_155_10, bq_144_0, bq_146_0, fb_s, fb_n, fb_0, fn_b0, fn_b01, and_self, and_true, true_and, and_false, false_and, not_true_eq_false, not_false_eq_true, if_true, if_false, cond_true, cond_false, true_or, or_true, fu_row, fu_at, fu_ne, fw_142, fw_148, h1, h2, h3, e2, e3, i1, i2, g1, g2, k1, k2, nI_1, nI_pred]
            exact ⟨_, n, np + 1, t, _, _, rfl, rfl, ⟨rfl, rfl⟩, ⟨h.court, fn_lp h.land hn h1 h2 h3, h.cal.more (by omega), ⟨n1, n2, n3, rfl, n5, Or.inr ⟨q, by omega, q2⟩⟩, h.rest⟩⟩
        · have h9 : np = 9 := by omega
          subst h9
          have g1 : ¬ nI 9 < 9 := by decide
          have g2 : nI 9 = 9 := rfl
          simp (disch := decide) only [bq_107_0, bq_107_1, bq_107_2, bq_107_3, bq_107_4, bq_107_5, bq_107_6, bq_107_7, bq_107_8, bq_107_9, bq_107_10, bq_107_11, bq_136_0, bq_155_0, bq_155_1, bq_155_2, bq_155_3, bq_155_4, bq_155_5, bq_155_6, bq_155_7, bq_155_8, bq_155_9, bq_155_10, bq_144_0, fb_s, fb_n, fb_0, fn_b0, fn_b01, and_self, and_true, true_and, and_false, false_and, not_true_eq_false, not_false_eq_true, if_true, if_false, cond_true, cond_false, true_or, or_true, fu_row, fu_at, fu_ne, fw_142, fw_148, h1, h2, h3, e2, e3, g1, g2]
          exact ⟨_, n, 9, t, _, _, rfl, rfl, ⟨rfl, rfl⟩, h.no 3⟩
      · simp (disch := decide) only [bq_107_0, bq_107_1, bq_107_2, bq_107_3, bq_107_4, bq_107_5, bq_107_6, bq_107_7, bq_107_8, bq_107_9, bq_107_10, bq_107_11, bq_136_0, bq_155_0, bq_155_1, bq_155_2, bq_155_3, bq_155_4, bq_155_5, bq_155_6, bq_155_7, bq_155_8, bq_155_9, bq_155_10, bq_144_0, fb_s, fb_n, fb_0, fn_b0, fn_b01, and_self, and_true, true_and, and_false, false_and, not_true_eq_false, not_false_eq_true, if_true, if_false, cond_true, cond_false, true_or, or_true, fu_row, fu_at, fu_ne, fw_142, fw_148, h1, h2, h3]
        exact ⟨_, n, np, t, _, _, rfl, rfl, ⟨rfl, rfl⟩, h.no 2⟩
    · simp (disch := decide) only [bq_107_0, bq_107_1, bq_107_2, bq_107_3, bq_107_4, bq_107_5, bq_107_6, bq_107_7, bq_107_8, bq_107_9, bq_107_10, bq_107_11, bq_136_0, bq_155_0, bq_155_1, bq_155_2, bq_155_3, bq_155_4, bq_155_5, bq_155_6, bq_155_7, bq_155_8, bq_155_9, bq_155_10, bq_144_0, fb_s, fb_n, fb_0, fn_b0, fn_b01, and_self, and_true, true_and, and_false, false_and, not_true_eq_false, not_false_eq_true, if_true, if_false, cond_true, cond_false, true_or, or_true, fu_row, fu_at, fu_ne, fw_142, fw_148, h1, h2]
      exact ⟨_, n, np, t, _, _, rfl, rfl, ⟨rfl, rfl⟩, h.no 2⟩
  · simp (disch := decide) only [bq_107_0, bq_107_1, bq_107_2, bq_107_3, bq_107_4, bq_107_5, bq_107_6, bq_107_7, bq_107_8, bq_107_9, bq_107_10, bq_107_11, bq_136_0, bq_155_0, bq_155_1, bq_155_2, bq_155_3, bq_155_4, bq_155_5, bq_155_6, bq_155_7, bq_155_8, bq_155_9, bq_155_10, bq_144_0, fb_s, fb_n, fb_0, fn_b0, fn_b01, and_self, and_true, true_and, and_false, false_and, not_true_eq_false, not_false_eq_true, if_true, if_false, cond_true, cond_false, true_or, or_true, fu_row, fu_at, fu_ne, fw_142, fw_148, h1]
    exact ⟨_, n, np, t, _, _, rfl, rfl, ⟨rfl, rfl⟩, h.no 2⟩
