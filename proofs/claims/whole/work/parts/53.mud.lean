/-! mud -/
def fn_fill (f : Nat → Int32) (i k : Nat) (v : Int32) : Nat → Int32 := fun j => if i ≤ j ∧ j ≤ k then v else f j
def fn_rw (M : Nat → Nat → Int32) (k : Nat) (g : Nat → Int32) : Nat → Nat → Int32 := fun a => if a = k then g else M a
theorem fn_rw_up {M : Nat → Nat → Int32} {k i : Nat} {g : Nat → Int32} {v : Int32} : ai_up (fn_rw M k g) k i v = fn_rw M k (upd g i v) := by
  funext a
  by_cases h : a = k
  · subst h; simp [ai_up, fn_rw]
  · simp [ai_up, fn_rw, h]
theorem fn_rw_id {M : Nat → Nat → Int32} {k : Nat} : fn_rw M k (M k) = M := by
  funext a
  by_cases h : a = k
  · subst h; simp [fn_rw]
  · simp [fn_rw, h]
theorem fn_fill_end {f : Nat → Int32} {k : Nat} {v : Int32} : fn_fill f (k + 1) k v = f := by
  funext j
  unfold fn_fill
  rw [if_neg (by omega)]
theorem fn_fill_step {f : Nat → Int32} {i k : Nat} {v : Int32} (h : i ≤ k) : fn_fill (upd f i v) (i + 1) k v = fn_fill f i k v := by
  funext j
  unfold fn_fill
  by_cases h1 : i + 1 ≤ j ∧ j ≤ k
  · rw [if_pos h1, if_pos (by omega)]
  · rw [if_neg h1]
    by_cases h2 : j = i
    · subst h2; rw [pk_us, if_pos (by omega)]
    · rw [pk_un h2, if_neg (by omega)]
theorem fl_1 {d : Nat} {al : Nat × Nat} {kl k : Nat} {M : Nat → Nat → Int32} {x : Int32} (hk : k < 200) : ∀ (m i : Nat) (g : Nat → Int32) (v1 : Value), i + m = k + 1 → ai_run d 1 2 [.ref 20, v1, .int (nI k), .int x, .int (nI i)] [] (hC al kl (fn_rw M 21 g)) = some (.inl none, hC al kl (fn_rw M 21 (fn_fill g i k x)))
  | 0, i, g, v1, h => by
    have hi : i = k + 1 := by omega
    subst hi
    rw [bq_1_2, if_pos (nI_lt (by omega) (by omega)), bq_1_3, fn_fill_end]
  | m + 1, i, g, v1, h => by
    have h2 : ¬ (200 : Int32) ≤ nI i := fun q => absurd ((nI_leI (a := 200) (by omega) (by omega)).mp q) (by omega)
    rw [bq_1_2, if_neg (nI_nlt (by omega) (by omega)), if_neg h2, fi_in (by omega), decide_eq_true (by omega), cond_true, nI_clamp (by omega), nI_1, fn_rw_up, fl_1 hk m (i + 1) _ _ (by omega), fn_fill_step (by omega)]
theorem fl_158 {d : Nat} {al : Nat × Nat} {k : Nat} {M : Nat → Nat → Int32} {N : Nat → Nat → Int64} {x : Int32} (hk : k < 200) : ∀ (m i : Nat) (g : Nat → Int32) (v1 : Value), i + m = k + 1 → ai_run (d + 1) 158 5 [.ref 0, v1, .int (nI k), .int x, .int (nI i)] [] (hM al (fn_rw M 15 g) N) = some (.inl (some (.int 1)), hM al (fn_noM (fn_rw M 15 (fn_fill g i k x)) 0) N)
  | 0, i, g, v1, h => by
    have hi : i = k + 1 := by omega
    subst hi
    rw [bq_158_5, if_pos (nI_lt (by omega) (by omega)), bq_158_6, bq_147_0, fb_s, bq_158_7, if_pos (Or.inr rfl), fn_fill_end]
    rfl
  | m + 1, i, g, v1, h => by
    rw [bq_158_5, if_neg (nI_nlt (by omega) (by omega)), fi_in (by omega), decide_eq_true (by omega), cond_true, nI_clamp (by omega), nI_1, fn_rw_up, fl_158 hk m (i + 1) _ _ (by omega), fn_fill_step (by omega)]
theorem fn_cm {np i k : Nat} {c2 : Int32} {r21 r22 : Nat → Int32} {m6 : Int32} {s15 s16 : Nat → Int32} {x : Int32} (h : fn_cal np c2 r21 r22 m6 s15 s16) (hx : 0 ≤ x ∧ x ≤ 4) : fn_cal np c2 (fn_fill r21 i k x) r22 m6 (fn_fill s15 i k x) s16 := by
  refine ⟨h.1, fun j hj => ?_⟩
  obtain ⟨a1, a2, a3, a4⟩ := h.2 j hj
  unfold fn_fill
  by_cases h1 : i ≤ j ∧ j ≤ k
  · rw [if_pos h1, if_pos h1]; exact ⟨rfl, a2, hx, a4⟩
  · rw [if_neg h1, if_neg h1]; exact ⟨a1, a2, a3, a4⟩
set_option maxHeartbeats 2000000 in
theorem ft_110 {n np t : Nat} {M MM : Nat → Nat → Int32} (h : fn_I n np t M MM) (a b c : Int32) : fn_S 110 158 [.int a, .int b, .int c] M MM := by
  intro al am kl N
  obtain ⟨n1, n2, n3, n4, n5, n6⟩ := h.now
  rw [show ai_ent (ai_mx 110) [.ref 0, .int a, .int b, .int c] = [.ref 0, .int a, .int b, .int c] from rfl, show ai_ent (ai_mx 158) [.ref 0, .int a, .int b, .int c] = [.ref 0, .int a, .int b, .int c, ai_un] from rfl]
  by_cases hA : 0 ≤ a ∧ a < 200
  · have g1 : ¬ a < 0 := Int32.not_lt.mpr hA.1
    by_cases hab : b < a
    · by_cases hB : 0 ≤ b ∧ b < 200
      · simp (disch := decide) only [bq_110_0, bq_110_1, bq_110_2, bq_110_3, bq_110_4, bq_110_5, bq_110_6, bq_110_7, bq_110_8, bq_138_0, bq_139_0, bq_158_0, bq_158_1, bq_158_2, bq_158_3, bq_158_4, bq_158_6, bq_158_7, bq_145_0, bq_147_0, bq_211_0, bq_211_1, bq_211_2, fb_s, fb_n, fb_0, fn_b0, fn_b01, and_self, and_true, true_and, and_false, false_and, not_true_eq_false, not_false_eq_true, if_true, if_false, cond_true, cond_false, true_or, or_true, fu_row, fu_at, fu_ne, fw_141, fw_142, fw_148, hA, hB, hab, g1]
        exact ⟨_, n, np, t, _, _, rfl, rfl, ⟨rfl, rfl⟩, h.no 2⟩
      · simp (disch := decide) only [bq_110_0, bq_110_1, bq_110_2, bq_110_3, bq_110_4, bq_110_5, bq_110_6, bq_110_7, bq_110_8, bq_138_0, bq_139_0, bq_158_0, bq_158_1, bq_158_2, bq_158_3, bq_158_4, bq_158_6, bq_158_7, bq_145_0, bq_147_0, bq_211_0, bq_211_1, bq_211_2, fb_s, fb_n, fb_0, fn_b0, fn_b01, and_self, and_true, true_and, and_false, false_and, not_true_eq_false, not_false_eq_true, if_true, if_false, cond_true, cond_false, true_or, or_true, fu_row, fu_at, fu_ne, fw_141, fw_142, fw_148, hA, hB, hab, g1]
        exact ⟨_, n, np, t, _, _, rfl, rfl, ⟨rfl, rfl⟩, h.no 2⟩
    · by_cases hB : 0 ≤ b ∧ b < 200
      · have g2 : ¬ 200 ≤ b := Int32.not_le.mpr hB.2
        by_cases h3 : 0 ≤ c ∧ c ≤ 4
        · obtain ⟨p, p1, p2⟩ := fi_of (n := 200) (by omega) hA
          obtain ⟨q, q1, q2⟩ := fi_of (n := 200) (by omega) hB
          have hpq : p ≤ q := by
            rw [p2, q2] at hab
            exact (nI_leI (by omega) (by omega)).mp (Int32.not_lt.mp hab)
          have l1 := fl_1 (d := 199) (al := al) (kl := kl) (M := M) (x := c) q1 (q + 1 - p) p (M 21) ai_un (by omega)
          have l2 := fl_158 (d := 199) (al := am) (N := N) (M := ai_up MM 0 0 0) (x := c) q1 (q + 1 - p) p (MM 15) (.int (nI p)) (by omega)
          rw [fn_rw_id] at l1
          rw [show fn_rw (ai_up MM 0 0 0) 15 (MM 15) = ai_up MM 0 0 0 from fn_rw_id (M := ai_up MM 0 0 0) (k := 15)] at l2
          rw [← p2, ← q2] at l1 l2
          simp (disch := decide) only [bq_110_0, bq_110_1, bq_110_2, bq_110_3, bq_110_4, bq_110_5, bq_110_6, bq_110_7, bq_110_8, bq_138_0, bq_139_0, bq_158_0, bq_158_1, bq_158_2, bq_158_3, bq_158_4, bq_158_6, bq_158_7, bq_145_0, bq_147_0, bq_211_0, bq_211_1, bq_211_2, fb_s, fb_n, fb_0, fn_b0, fn_b01, and_self, and_true, true_and, and_false, false_and, not_true_eq_false, not_false_eq_true, if_true, if_false, cond_true, cond_false, true_or, or_true, fu_row, fu_at, fu_ne, bq_1_0, bq_1_1, fw_141, fw_142, fw_148, hA, hB, hab, g1, g2, h3, l1, l2]
          exact ⟨_, n, np, t, _, _, rfl, rfl, ⟨rfl, rfl⟩, ⟨h.court, h.land, fn_cm h.cal h3, ⟨n1, n2, n3, rfl, n5, n6⟩, h.rest⟩⟩
        · simp (disch := decide) only [bq_110_0, bq_110_1, bq_110_2, bq_110_3, bq_110_4, bq_110_5, bq_110_6, bq_110_7, bq_110_8, bq_138_0, bq_139_0, bq_158_0, bq_158_1, bq_158_2, bq_158_3, bq_158_4, bq_158_6, bq_158_7, bq_145_0, bq_147_0, bq_211_0, bq_211_1, bq_211_2, fb_s, fb_n, fb_0, fn_b0, fn_b01, and_self, and_true, true_and, and_false, false_and, not_true_eq_false, not_false_eq_true, if_true, if_false, cond_true, cond_false, true_or, or_true, fu_row, fu_at, fu_ne, fw_141, fw_142, fw_148, hA, hB, hab, g1, g2, h3]
          exact ⟨_, n, np, t, _, _, rfl, rfl, ⟨rfl, rfl⟩, h.no 2⟩
      · have g2 : 200 ≤ b := Int32.not_lt.mp (fun q => hB ⟨Int32.le_trans hA.1 (Int32.not_lt.mp hab), q⟩)
        simp (disch := decide) only [bq_110_0, bq_110_1, bq_110_2, bq_110_3, bq_110_4, bq_110_5, bq_110_6, bq_110_7, bq_110_8, bq_138_0, bq_139_0, bq_158_0, bq_158_1, bq_158_2, bq_158_3, bq_158_4, bq_158_6, bq_158_7, bq_145_0, bq_147_0, bq_211_0, bq_211_1, bq_211_2, fb_s, fb_n, fb_0, fn_b0, fn_b01, and_self, and_true, true_and, and_false, false_and, not_true_eq_false, not_false_eq_true, if_true, if_false, cond_true, cond_false, true_or, or_true, fu_row, fu_at, fu_ne, fw_141, fw_142, fw_148, hA, hB, hab, g1, g2]
        exact ⟨_, n, np, t, _, _, rfl, rfl, ⟨rfl, rfl⟩, h.no 2⟩
  · by_cases g1 : a < 0
    · simp (disch := decide) only [bq_110_0, bq_110_1, bq_110_2, bq_110_3, bq_110_4, bq_110_5, bq_110_6, bq_110_7, bq_110_8, bq_138_0, bq_139_0, bq_158_0, bq_158_1, bq_158_2, bq_158_3, bq_158_4, bq_158_6, bq_158_7, bq_145_0, bq_147_0, bq_211_0, bq_211_1, bq_211_2, fb_s, fb_n, fb_0, fn_b0, fn_b01, and_self, and_true, true_and, and_false, false_and, not_true_eq_false, not_false_eq_true, if_true, if_false, cond_true, cond_false, true_or, or_true, fu_row, fu_at, fu_ne, fw_141, fw_142, fw_148, hA, g1]
      exact ⟨_, n, np, t, _, _, rfl, rfl, ⟨rfl, rfl⟩, h.no 2⟩
    · by_cases hab : b < a
      · simp (disch := decide) only [bq_110_0, bq_110_1, bq_110_2, bq_110_3, bq_110_4, bq_110_5, bq_110_6, bq_110_7, bq_110_8, bq_138_0, bq_139_0, bq_158_0, bq_158_1, bq_158_2, bq_158_3, bq_158_4, bq_158_6, bq_158_7, bq_145_0, bq_147_0, bq_211_0, bq_211_1, bq_211_2, fb_s, fb_n, fb_0, fn_b0, fn_b01, and_self, and_true, true_and, and_false, false_and, not_true_eq_false, not_false_eq_true, if_true, if_false, cond_true, cond_false, true_or, or_true, fu_row, fu_at, fu_ne, fw_141, fw_142, fw_148, hA, g1, hab]
        exact ⟨_, n, np, t, _, _, rfl, rfl, ⟨rfl, rfl⟩, h.no 2⟩
      · have g2 : 200 ≤ b := Int32.le_trans (Int32.not_lt.mp (fun q => hA ⟨Int32.not_lt.mp g1, q⟩)) (Int32.not_lt.mp hab)
        simp (disch := decide) only [bq_110_0, bq_110_1, bq_110_2, bq_110_3, bq_110_4, bq_110_5, bq_110_6, bq_110_7, bq_110_8, bq_138_0, bq_139_0, bq_158_0, bq_158_1, bq_158_2, bq_158_3, bq_158_4, bq_158_6, bq_158_7, bq_145_0, bq_147_0, bq_211_0, bq_211_1, bq_211_2, fb_s, fb_n, fb_0, fn_b0, fn_b01, and_self, and_true, true_and, and_false, false_and, not_true_eq_false, not_false_eq_true, if_true, if_false, cond_true, cond_false, true_or, or_true, fu_row, fu_at, fu_ne, fw_141, fw_142, fw_148, hA, g1, hab, g2]
        exact ⟨_, n, np, t, _, _, rfl, rfl, ⟨rfl, rfl⟩, h.no 2⟩
