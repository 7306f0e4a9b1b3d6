/-! bars -/
theorem fi_or : ∀ w, w < 256 → ∀ q, q < 8 → (0 ≤ (nI w ||| ((1 : Int32) <<< (nI q &&& 31))) ∧ (nI w ||| ((1 : Int32) <<< (nI q &&& 31))) < 256) := by decide +kernel
theorem fi_an : ∀ w, w < 256 → ∀ q, q < 8 → (0 ≤ (nI w &&& (((1 : Int32) <<< (nI q &&& 31)) ^^^ (-1 : Int32))) ∧ (nI w &&& (((1 : Int32) <<< (nI q &&& 31)) ^^^ (-1 : Int32))) < 256) := by decide +kernel
theorem fi_ob : ∀ w, w < 256 → ∀ q, q < 8 → ∀ j, j < 8 → fn_bt (nI w ||| ((1 : Int32) <<< (nI q &&& 31))) j = (decide (j = q) || fn_bt (nI w) j) := by decide +kernel
theorem fi_ab : ∀ w, w < 256 → ∀ q, q < 8 → ∀ j, j < 8 → fn_bt (nI w &&& (((1 : Int32) <<< (nI q &&& 31)) ^^^ (-1 : Int32))) j = (!decide (j = q) && fn_bt (nI w) j) := by decide +kernel
theorem fn_so {r8 : Nat → Int32} {p q w1 w2 : Nat} (h : fn_sy r8) (hp : p < 8) (hq : q < 8) (hqp : q ≠ p) (u1 : w1 < 256) (u2 : w2 < 256) (v1 : r8 p = nI w1) (v2 : r8 q = nI w2) : fn_sy (upd (upd r8 p (nI w1 ||| ((1 : Int32) <<< (nI q &&& 31)))) q (nI w2 ||| ((1 : Int32) <<< (nI p &&& 31)))) := by
  have key : ∀ i j : Nat, i < 8 → j < 8 → fn_bt (upd (upd r8 p (nI w1 ||| ((1 : Int32) <<< (nI q &&& 31)))) q (nI w2 ||| ((1 : Int32) <<< (nI p &&& 31))) i) j = (decide (i = p ∧ j = q ∨ i = q ∧ j = p) || fn_bt (r8 i) j) := by
    intro i j hi hj
    by_cases e1 : i = q
    · subst e1
      rw [pk_us, fi_ob w2 u2 p hp j hj, v2]
      congr 1
      simp [hqp]
    · rw [pk_un e1]
      by_cases e2 : i = p
      · subst e2
        rw [pk_us, fi_ob w1 u1 q hq j hj, v1]
        congr 1
        simp [e1]
      · rw [pk_un e2]
        simp [e1, e2]
  intro i j hi hj
  rw [key i j hi hj, key j i hj hi, h i j hi hj, show decide (i = p ∧ j = q ∨ i = q ∧ j = p) = decide (j = p ∧ i = q ∨ j = q ∧ i = p) from decide_eq_decide.mpr (by omega)]
theorem fn_sa {r8 : Nat → Int32} {p q w1 w2 : Nat} (h : fn_sy r8) (hp : p < 8) (hq : q < 8) (hqp : q ≠ p) (u1 : w1 < 256) (u2 : w2 < 256) (v1 : r8 p = nI w1) (v2 : r8 q = nI w2) : fn_sy (upd (upd r8 p (nI w1 &&& (((1 : Int32) <<< (nI q &&& 31)) ^^^ (-1 : Int32)))) q (nI w2 &&& (((1 : Int32) <<< (nI p &&& 31)) ^^^ (-1 : Int32)))) := by
  have key : ∀ i j : Nat, i < 8 → j < 8 → fn_bt (upd (upd r8 p (nI w1 &&& (((1 : Int32) <<< (nI q &&& 31)) ^^^ (-1 : Int32)))) q (nI w2 &&& (((1 : Int32) <<< (nI p &&& 31)) ^^^ (-1 : Int32))) i) j = (!decide (i = p ∧ j = q ∨ i = q ∧ j = p) && fn_bt (r8 i) j) := by
    intro i j hi hj
    by_cases e1 : i = q
    · subst e1
      rw [pk_us, fi_ab w2 u2 p hp j hj, v2]
      congr 1
      simp [hqp]
    · rw [pk_un e1]
      by_cases e2 : i = p
      · subst e2
        rw [pk_us, fi_ab w1 u1 q hq j hj, v1]
        congr 1
        simp [e1]
      · rw [pk_un e2]
        simp [e1, e2]
  intro i j hi hj
  rw [key i j hi hj, key j i hj hi, h i j hi hj, show decide (i = p ∧ j = q ∨ i = q ∧ j = p) = decide (j = p ∧ i = q ∨ j = q ∧ i = p) from decide_eq_decide.mpr (by omega)]
theorem fn_cb {n p q : Nat} {c0 : Int32} {r5 r6 r7 r8 : Nat → Int32} {m4 : Int32} {s1 s2 s3 s4 : Nat → Int32} {x y : Int32} (h : fn_court n c0 r5 r6 r7 r8 m4 s1 s2 s3 s4) (hx : 0 ≤ x ∧ x < 256) (hy : 0 ≤ y ∧ y < 256) : fn_court n c0 r5 r6 r7 (upd (upd r8 p x) q y) m4 s1 s2 s3 (upd (upd s4 p x) q y) := by
  refine ⟨h.1, fun j hj => ?_, h.2.2⟩
  obtain ⟨a1, a2, a3, a4, a5⟩ := h.2.1 j hj
  refine ⟨a1, a2, a3, ?_⟩
  by_cases hq : j = q
  · subst hq; rw [pk_us, pk_us]; exact ⟨rfl, hy⟩
  · rw [pk_un hq, pk_un hq]
    by_cases hp : j = p
    · subst hp; rw [pk_us, pk_us]; exact ⟨rfl, hx⟩
    · rw [pk_un hp, pk_un hp]; exact ⟨a4, a5⟩
set_option maxHeartbeats 2000000 in
theorem ft_106 {n np t : Nat} {M MM : Nat → Nat → Int32} (h : fn_I n np t M MM) (a b c : Int32) : fn_S 106 154 [.int a, .int b, .int c] M MM := by
  intro al am kl N
  obtain ⟨e1, e2, e3⟩ := h.court.1
  obtain ⟨n1, n2, n3, n4, n5, n6⟩ := h.now
  rw [show ai_ent (ai_mx 106) [.ref 0, .int a, .int b, .int c] = [.ref 0, .int a, .int b, .int c] from rfl, show ai_ent (ai_mx 154) [.ref 0, .int a, .int b, .int c] = [.ref 0, .int a, .int b, .int c] from rfl]
  by_cases h1 : 0 ≤ a ∧ a < nI n
  · by_cases h2 : 0 ≤ b ∧ b < nI n
    · by_cases h0 : a = b
      · simp (disch := decide) only [bq_106_0, bq_106_1, bq_106_2, bq_106_3, bq_106_4, bq_106_5, bq_106_6, bq_106_7, bq_9_0, bq_9_1, bq_9_2, bq_9_3, bq_9_4, bq_9_5, bq_9_6, bq_138_0, bq_139_0, bq_154_0, bq_154_1, bq_154_2, bq_154_3, bq_154_4, bq_154_5, bq_154_6, bq_154_7, bq_154_8, bq_154_9, bq_154_10, bq_145_0, bq_147_0, fb_s, fb_n, fb_0, fn_b0, fn_b01, and_self, and_true, true_and, and_false, false_and, not_true_eq_false, not_false_eq_true, if_true, if_false, cond_true, cond_false, true_or, or_true, fu_row, fu_at, fu_ne, fw_7, fw_150, e2, e3, h1, h2, h0]
        exact ⟨_, n, np, t, _, _, rfl, rfl, ⟨rfl, rfl⟩, h.no 1⟩
      · obtain ⟨p, p1, p2⟩ := fi_of (by omega) h1
        obtain ⟨q, q1, q2⟩ := fi_of (by omega) h2
        have hqp : q ≠ p := fun r => h0 (by rw [p2, q2, r])
        have p1' : p < 8 := by omega
        have q1' : q < 8 := by omega
        obtain ⟨-, -, -, a4, a5⟩ := h.court.2.1 p (by omega)
        obtain ⟨-, -, -, b4, b5⟩ := h.court.2.1 q (by omega)
        obtain ⟨w1, u1, v1⟩ := fi_of (n := 256) (by omega) a5
        obtain ⟨w2, u2, v2⟩ := fi_of (n := 256) (by omega) b5
        have x4 : MM 4 p = nI w1 := a4.symm.trans v1
        have y4 : MM 4 q = nI w2 := b4.symm.trans v2
        have cp : (nI p).toNatClampNeg = p := nI_clamp (by omega)
        have cq : (nI q).toNatClampNeg = q := nI_clamp (by omega)
        have ip : ai_in (nI p) 8 = true := by rw [fi_in (by omega)]; exact decide_eq_true (by omega)
        have iq : ai_in (nI q) 8 = true := by rw [fi_in (by omega)]; exact decide_eq_true (by omega)
        have uq : ∀ (f : Nat → Int32) (X : Int32), upd f p X q = f q := fun _ _ => pk_un hqp
        have ua : ∀ (M : Nat → Nat → Int32) (k : Nat) (X : Int32), ai_up M k p X k q = M k q := fun _ _ _ => fu_ne hqp
        rw [p2] at h0 h1
        rw [q2] at h0 h2
        subst p2 q2
        by_cases hc : c = 0
        · simp (disch := decide) only [bq_106_0, bq_106_1, bq_106_2, bq_106_3, bq_106_4, bq_106_5, bq_106_6, bq_106_7, bq_9_0, bq_9_1, bq_9_2, bq_9_3, bq_9_4, bq_9_5, bq_9_6, bq_138_0, bq_139_0, bq_154_0, bq_154_1, bq_154_2, bq_154_3, bq_154_4, bq_154_5, bq_154_6, bq_154_7, bq_154_8, bq_154_9, bq_154_10, bq_145_0, bq_147_0, fb_s, fb_n, fb_0, fn_b0, fn_b01, and_self, and_true, true_and, and_false, false_and, not_true_eq_false, not_false_eq_true, if_true, if_false, cond_true, cond_false, true_or, or_true, fu_row, fu_at, fu_ne, fw_7, fw_150, e2, e3, h1, h2, h0, hc, cp, cq, ip, iq, uq, ua, v1, v2, x4, y4]
          exact ⟨_, n, np, t, _, _, rfl, rfl, ⟨rfl, rfl⟩, ⟨fn_cb h.court (fi_an w1 u1 q (by omega)) (fi_an w2 u2 p (by omega)), h.land, h.cal, ⟨n1, n2, n3, rfl, n5, n6⟩, h.past, ⟨fn_sa h.ldg.1 p1' q1' hqp u1 u2 v1 v2, h.ldg.2⟩, h.told, h.plz, h.tap, h.que, h.flt, h.rul⟩⟩
        · simp (disch := decide) only [bq_106_0, bq_106_1, bq_106_2, bq_106_3, bq_106_4, bq_106_5, bq_106_6, bq_106_7, bq_9_0, bq_9_1, bq_9_2, bq_9_3, bq_9_4, bq_9_5, bq_9_6, bq_138_0, bq_139_0, bq_154_0, bq_154_1, bq_154_2, bq_154_3, bq_154_4, bq_154_5, bq_154_6, bq_154_7, bq_154_8, bq_154_9, bq_154_10, bq_145_0, bq_147_0, fb_s, fb_n, fb_0, fn_b0, fn_b01, and_self, and_true, true_and, and_false, false_and, not_true_eq_false, not_false_eq_true, if_true, if_false, cond_true, cond_false, true_or, or_true, fu_row, fu_at, fu_ne, fw_7, fw_150, e2, e3, h1, h2, h0, hc, cp, cq, ip, iq, uq, ua, v1, v2, x4, y4]
          exact ⟨_, n, np, t, _, _, rfl, rfl, ⟨rfl, rfl⟩, ⟨fn_cb h.court (fi_or w1 u1 q (by omega)) (fi_or w2 u2 p (by omega)), h.land, h.cal, ⟨n1, n2, n3, rfl, n5, n6⟩, h.past, ⟨fn_so h.ldg.1 p1' q1' hqp u1 u2 v1 v2, h.ldg.2⟩, h.told, h.plz, h.tap, h.que, h.flt, h.rul⟩⟩
    · simp (disch := decide) only [bq_106_0, bq_106_1, bq_106_2, bq_106_3, bq_106_4, bq_106_5, bq_106_6, bq_106_7, bq_9_0, bq_9_1, bq_9_2, bq_9_3, bq_9_4, bq_9_5, bq_9_6, bq_138_0, bq_139_0, bq_154_0, bq_154_1, bq_154_2, bq_154_3, bq_154_4, bq_154_5, bq_154_6, bq_154_7, bq_154_8, bq_154_9, bq_154_10, bq_145_0, bq_147_0, fb_s, fb_n, fb_0, fn_b0, fn_b01, and_self, and_true, true_and, and_false, false_and, not_true_eq_false, not_false_eq_true, if_true, if_false, cond_true, cond_false, true_or, or_true, fu_row, fu_at, fu_ne, fw_7, fw_150, e2, e3, h1, h2]
      exact ⟨_, n, np, t, _, _, rfl, rfl, ⟨rfl, rfl⟩, h.no 1⟩
  · simp (disch := decide) only [bq_106_0, bq_106_1, bq_106_2, bq_106_3, bq_106_4, bq_106_5, bq_106_6, bq_106_7, bq_9_0, bq_9_1, bq_9_2, bq_9_3, bq_9_4, bq_9_5, bq_9_6, bq_138_0, bq_139_0, bq_154_0, bq_154_1, bq_154_2, bq_154_3, bq_154_4, bq_154_5, bq_154_6, bq_154_7, bq_154_8, bq_154_9, bq_154_10, bq_145_0, bq_147_0, fb_s, fb_n, fb_0, fn_b0, fn_b01, and_self, and_true, true_and, and_false, false_and, not_true_eq_false, not_false_eq_true, if_true, if_false, cond_true, cond_false, true_or, or_true, fu_row, fu_at, fu_ne, fw_7, fw_150, e2, e3, h1]
    exact ⟨_, n, np, t, _, _, rfl, rfl, ⟨rfl, rfl⟩, h.no 1⟩
