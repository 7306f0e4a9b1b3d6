/-! what was; ways -/
theorem fi_of {x : Int32} {n : Nat} (hn : n < 2 ^ 31) (h : 0 ≤ x ∧ x < nI n) : ∃ p : Nat, p < n ∧ x = nI p := by
  have h1 := Int32.le_iff_toInt_le.mp h.1
  have h2 := Int32.lt_iff_toInt_lt.mp h.2
  rw [nI_toInt hn] at h2
  have h0 : (0 : Int32).toInt = 0 := by decide
  rw [h0] at h1
  refine ⟨x.toInt.toNat, by omega, ?_⟩
  apply Int32.toInt_inj.mp
  rw [nI_toInt (by omega)]
  omega
theorem fn_I.z {n np t : Nat} {M MM : Nat → Nat → Int32} (h : fn_I n np t M MM) : fn_I n np t M (ai_up MM 0 0 0) :=
  ⟨h.court, h.land, h.cal, h.now, h.rest⟩
theorem ft_135 {n np t : Nat} {M MM : Nat → Nat → Int32} (h : fn_I n np t M MM) : fn_S 135 209 [] M MM := by
  intro al am kl N
  rw [show ai_ent (ai_mx 135) [.ref 0] = [.ref 0] from rfl, show ai_ent (ai_mx 209) [.ref 0] = [.ref 0] from rfl]
  rw [bq_135_0, bq_209_0, show MM 0 1 = M 0 14 from congrArg Prod.fst h.now.2.2.2.1]
  exact ⟨_, n, np, t, _, _, rfl, rfl, ⟨rfl, rfl⟩, h.z⟩
theorem fw_140 {d : Nat} {al : Nat × Nat} {kl t : Nat} {M : Nat → Nat → Int32} {x : Int32} (ht : t < 200) (hM : M 0 12 = nI t) : ai_run (d + 1) 140 0 [.ref 0, .int x] [] (hC al kl M) = some (.inl (some (.int (fn_b (0 ≤ x ∧ x < nI t)))), hC al kl M) := by
  by_cases h1 : 0 ≤ x ∧ x < nI t
  · obtain ⟨p, p1, p2⟩ := fi_of (by omega) h1
    have h2 : 0 ≤ x ∧ x < 200 := ⟨h1.1, by rw [p2]; exact nI_lt (b := 200) (by omega) (by omega)⟩
    have h3 : ¬ nI t ≤ x := Int32.not_le.mpr h1.2
    have h5 : fn_b (0 ≤ x ∧ x < nI t) = 1 := by simp [fn_b, h1]
    rw [h5]
    simp (disch := decide) only [bq_140_0, bq_140_1, bq_140_2, bq_140_3, fb_s, fb_n, fb_0, fn_b0, fn_b01, and_self, and_true, true_and, and_false, false_and, not_true_eq_false, not_false_eq_true, if_true, if_false, cond_true, cond_false, true_or, or_true, fu_row, fu_at, fu_ne, fw_141, h2, hM, h3]
  · have h5 : fn_b (0 ≤ x ∧ x < nI t) = 0 := by simp only [fn_b, h1, if_false]
    rw [h5]
    by_cases h2 : 0 ≤ x ∧ x < 200
    · have h3 : nI t ≤ x := Int32.not_lt.mp (fun q => h1 ⟨h2.1, q⟩)
      simp (disch := decide) only [bq_140_0, bq_140_1, bq_140_2, bq_140_3, fb_s, fb_n, fb_0, fn_b0, fn_b01, and_self, and_true, true_and, and_false, false_and, not_true_eq_false, not_false_eq_true, if_true, if_false, cond_true, cond_false, true_or, or_true, fu_row, fu_at, fu_ne, fw_141, h2, hM, h3]
    · simp (disch := decide) only [bq_140_0, bq_140_1, bq_140_2, bq_140_3, fb_s, fb_n, fb_0, fn_b0, fn_b01, and_self, and_true, true_and, and_false, false_and, not_true_eq_false, not_false_eq_true, if_true, if_false, cond_true, cond_false, true_or, or_true, fu_row, fu_at, fu_ne, fw_141, h2]
theorem ft_128 {n np t : Nat} {M MM : Nat → Nat → Int32} (h : fn_I n np t M MM) (x : Int32) : fn_S 128 201 [.int x] M MM := by
  intro al am kl N
  rw [show ai_ent (ai_mx 128) [.ref 0, .int x] = [.ref 0, .int x] from rfl, show ai_ent (ai_mx 201) [.ref 0, .int x] = [.ref 0, .int x] from rfl]
  obtain ⟨n1, n2, n3, n4, n5, n6⟩ := h.now
  by_cases h1 : 0 ≤ x ∧ x < nI t
  · obtain ⟨p, p1, p2⟩ := fi_of (by omega) h1
    have g1 : ¬ x < 0 := Int32.not_lt.mpr h1.1
    have g2 : ¬ nI t ≤ x := Int32.not_le.mpr h1.2
    have g3 : ai_in x 200 = true := by rw [p2, fi_in (by omega)]; exact decide_eq_true (by omega)
    have g4 : x.toNatClampNeg = p := by rw [p2]; exact nI_clamp (by omega)
    have g5 := (h.past p p1).1
    simp (disch := decide) only [bq_128_0, bq_128_1, bq_128_2, bq_128_3, bq_201_0, bq_201_1, bq_201_2, fb_s, fb_n, fb_0, fn_b0, fn_b01, and_self, and_true, true_and, and_false, false_and, not_true_eq_false, not_false_eq_true, if_true, if_false, cond_true, cond_false, true_or, or_true, fu_row, fu_at, fu_ne, fw_140 n1 n2, h1, g1, g2, g3, g4, g5, n3]
    exact ⟨_, n, np, t, _, _, rfl, rfl, ⟨rfl, rfl⟩, h.z⟩
  · by_cases g1 : x < 0
    · simp (disch := decide) only [bq_128_0, bq_128_1, bq_128_2, bq_128_3, bq_201_0, bq_201_1, bq_201_2, fb_s, fb_n, fb_0, fn_b0, fn_b01, and_self, and_true, true_and, and_false, false_and, not_true_eq_false, not_false_eq_true, if_true, if_false, cond_true, cond_false, true_or, or_true, fu_row, fu_at, fu_ne, fw_140 n1 n2, h1, g1]
      exact ⟨_, n, np, t, _, _, rfl, rfl, ⟨rfl, rfl⟩, h.z⟩
    · have g2 : nI t ≤ x := Int32.not_lt.mp (fun q => h1 ⟨Int32.not_lt.mp g1, q⟩)
      simp (disch := decide) only [bq_128_0, bq_128_1, bq_128_2, bq_128_3, bq_201_0, bq_201_1, bq_201_2, fb_s, fb_n, fb_0, fn_b0, fn_b01, and_self, and_true, true_and, and_false, false_and, not_true_eq_false, not_false_eq_true, if_true, if_false, cond_true, cond_false, true_or, or_true, fu_row, fu_at, fu_ne, fw_140 n1 n2, h1, g1, g2, n3]
      exact ⟨_, n, np, t, _, _, rfl, rfl, ⟨rfl, rfl⟩, h.z⟩
theorem ft_129 {n np t : Nat} {M MM : Nat → Nat → Int32} (h : fn_I n np t M MM) (x : Int32) : fn_S 129 202 [.int x] M MM := by
  intro al am kl N
  rw [show ai_ent (ai_mx 129) [.ref 0, .int x] = [.ref 0, .int x] from rfl, show ai_ent (ai_mx 202) [.ref 0, .int x] = [.ref 0, .int x] from rfl]
  obtain ⟨n1, n2, n3, n4, n5, n6⟩ := h.now
  by_cases h1 : 0 ≤ x ∧ x < nI t
  · obtain ⟨p, p1, p2⟩ := fi_of (by omega) h1
    have g1 : ¬ x < 0 := Int32.not_lt.mpr h1.1
    have g2 : ¬ nI t ≤ x := Int32.not_le.mpr h1.2
    have g3 : ai_in x 200 = true := by rw [p2, fi_in (by omega)]; exact decide_eq_true (by omega)
    have g4 : x.toNatClampNeg = p := by rw [p2]; exact nI_clamp (by omega)
    have g5 := (h.past p p1).2
    simp (disch := decide) only [bq_129_0, bq_129_1, bq_129_2, bq_129_3, bq_202_0, bq_202_1, bq_202_2, fb_s, fb_n, fb_0, fn_b0, fn_b01, and_self, and_true, true_and, and_false, false_and, not_true_eq_false, not_false_eq_true, if_true, if_false, cond_true, cond_false, true_or, or_true, fu_row, fu_at, fu_ne, fw_140 n1 n2, h1, g1, g2, g3, g4, g5, n3]
    exact ⟨_, n, np, t, _, _, rfl, rfl, ⟨rfl, rfl⟩, h.z⟩
  · by_cases g1 : x < 0
    · simp (disch := decide) only [bq_129_0, bq_129_1, bq_129_2, bq_129_3, bq_202_0, bq_202_1, bq_202_2, fb_s, fb_n, fb_0, fn_b0, fn_b01, and_self, and_true, true_and, and_false, false_and, not_true_eq_false, not_false_eq_true, if_true, if_false, cond_true, cond_false, true_or, or_true, fu_row, fu_at, fu_ne, fw_140 n1 n2, h1, g1]
      exact ⟨_, n, np, t, _, _, rfl, rfl, ⟨rfl, rfl⟩, h.z⟩
    · have g2 : nI t ≤ x := Int32.not_lt.mp (fun q => h1 ⟨Int32.not_lt.mp g1, q⟩)
      simp (disch := decide) only [bq_129_0, bq_129_1, bq_129_2, bq_129_3, bq_202_0, bq_202_1, bq_202_2, fb_s, fb_n, fb_0, fn_b0, fn_b01, and_self, and_true, true_and, and_false, false_and, not_true_eq_false, not_false_eq_true, if_true, if_false, cond_true, cond_false, true_or, or_true, fu_row, fu_at, fu_ne, fw_140 n1 n2, h1, g1, g2, n3]
      exact ⟨_, n, np, t, _, _, rfl, rfl, ⟨rfl, rfl⟩, h.z⟩
