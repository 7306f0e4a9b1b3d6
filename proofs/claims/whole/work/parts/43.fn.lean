/-! what the small methods answer -/
theorem fb_s {rc : ai_Rec} {d mi hd : Nat} {L r : List Value} {k : ai_K} {v : Value} {h : ai_Hp} : ai_back rc d mi hd L r k (some (.inl (some v), h)) = k L (v :: r) h := rfl
theorem fb_n {rc : ai_Rec} {d mi hd : Nat} {L r : List Value} {k : ai_K} {h : ai_Hp} : ai_back rc d mi hd L r k (some (.inl none, h)) = k L r h := rfl
theorem fb_0 {rc : ai_Rec} {d mi hd : Nat} {L r : List Value} {k : ai_K} : ai_back rc d mi hd L r k none = none := rfl
def fn_b (p : Prop) [Decidable p] : Int32 := if p then 1 else 0
theorem fn_b0 {p : Prop} [Decidable p] : (fn_b p = 0) ↔ ¬ p := by
  unfold fn_b
  split <;> simp_all
theorem fn_b01 {p : Prop} [Decidable p] : (fn_b p = 0 ∨ fn_b p = 1) ↔ True := by
  unfold fn_b
  split <;> simp_all
theorem fu_row {M : Nat → Nat → Int32} {a i k : Nat} {v : Int32} (h : k ≠ a) : ai_up M a i v k = M k := if_neg h
theorem fu_at {M : Nat → Nat → Int32} {a i : Nat} {v : Int32} : ai_up M a i v a i = v := by simp [ai_up, upd]
theorem fu_ne {M : Nat → Nat → Int32} {a i j : Nat} {v : Int32} (h : j ≠ i) : ai_up M a i v a j = M a j := by simp [ai_up, upd, h]
theorem fw_142 {d : Nat} {h : ai_Hp} {a lo hi : Int32} : ai_run d 142 0 [.int a, .int lo, .int hi] [] h = some (.inl (some (.int (fn_b (lo ≤ a ∧ a ≤ hi)))), h) := by
  rw [bq_142_0]
  by_cases h1 : a < lo
  · rw [if_pos h1, bq_142_1, bq_142_2, if_pos (Or.inl rfl), fn_b, if_neg (fun q => Int32.not_le.mpr h1 q.1)]
  · rw [if_neg h1]
    by_cases h2 : hi < a
    · rw [if_pos h2, bq_142_1, bq_142_2, if_pos (Or.inl rfl), fn_b, if_neg (fun q => Int32.not_le.mpr h2 q.2)]
    · rw [if_neg h2, bq_142_2, if_pos (Or.inr rfl), fn_b, if_pos ⟨Int32.not_lt.mp h1, Int32.not_lt.mp h2⟩]
theorem fw_148 {d : Nat} {h : ai_Hp} {a lo hi : Int32} : ai_run d 148 0 [.int a, .int lo, .int hi] [] h = some (.inl (some (.int (fn_b (lo ≤ a ∧ a ≤ hi)))), h) := by
  rw [bq_148_0]
  by_cases h1 : a < lo
  · rw [if_pos h1, bq_148_1, bq_148_2, if_pos (Or.inl rfl), fn_b, if_neg (fun q => Int32.not_le.mpr h1 q.1)]
  · rw [if_neg h1]
    by_cases h2 : hi < a
    · rw [if_pos h2, bq_148_1, bq_148_2, if_pos (Or.inl rfl), fn_b, if_neg (fun q => Int32.not_le.mpr h2 q.2)]
    · rw [if_neg h2, bq_148_2, if_pos (Or.inr rfl), fn_b, if_pos ⟨Int32.not_lt.mp h1, Int32.not_lt.mp h2⟩]
theorem fw_7 {d : Nat} {al : Nat × Nat} {kl : Nat} {M : Nat → Nat → Int32} {x : Int32} : ai_run d 7 0 [.ref 4, .int x] [] (hC al kl M) = some (.inl (some (.int (fn_b (0 ≤ x ∧ x < M 4 0)))), (hC al kl M)) := by
  rw [bq_7_0]
  by_cases h1 : x < 0
  · rw [if_pos h1, bq_7_1, bq_7_2, if_pos (Or.inl rfl), fn_b, if_neg (fun q => Int32.not_le.mpr h1 q.1)]
  · rw [if_neg h1]
    by_cases h2 : M 4 0 ≤ x
    · rw [if_pos h2, bq_7_1, bq_7_2, if_pos (Or.inl rfl), fn_b, if_neg (fun q => Int32.not_lt.mpr h2 q.2)]
    · rw [if_neg h2, bq_7_2, if_pos (Or.inr rfl), fn_b, if_pos ⟨Int32.not_lt.mp h1, Int32.not_le.mp h2⟩]
theorem fw_33 {d : Nat} {al : Nat × Nat} {kl : Nat} {M : Nat → Nat → Int32} {x : Int32} : ai_run d 33 0 [.ref 9, .int x] [] (hC al kl M) = some (.inl (some (.int (fn_b (0 ≤ x ∧ x < M 9 0)))), (hC al kl M)) := by
  rw [bq_33_0]
  by_cases h1 : x < 0
  · rw [if_pos h1, bq_33_1, bq_33_2, if_pos (Or.inl rfl), fn_b, if_neg (fun q => Int32.not_le.mpr h1 q.1)]
  · rw [if_neg h1]
    by_cases h2 : M 9 0 ≤ x
    · rw [if_pos h2, bq_33_1, bq_33_2, if_pos (Or.inl rfl), fn_b, if_neg (fun q => Int32.not_lt.mpr h2 q.2)]
    · rw [if_neg h2, bq_33_2, if_pos (Or.inr rfl), fn_b, if_pos ⟨Int32.not_lt.mp h1, Int32.not_le.mp h2⟩]
theorem fw_150 {d : Nat} {al : Nat × Nat} {M : Nat → Nat → Int32} {N : Nat → Nat → Int64} {x : Int32} : ai_run d 150 0 [.ref 0, .int x] [] (hM al M N) = some (.inl (some (.int (fn_b (0 ≤ x ∧ x < M 0 4)))), (hM al M N)) := by
  rw [bq_150_0]
  by_cases h1 : x < 0
  · rw [if_pos h1, bq_150_1, bq_150_2, if_pos (Or.inl rfl), fn_b, if_neg (fun q => Int32.not_le.mpr h1 q.1)]
  · rw [if_neg h1]
    by_cases h2 : M 0 4 ≤ x
    · rw [if_pos h2, bq_150_1, bq_150_2, if_pos (Or.inl rfl), fn_b, if_neg (fun q => Int32.not_lt.mpr h2 q.2)]
    · rw [if_neg h2, bq_150_2, if_pos (Or.inr rfl), fn_b, if_pos ⟨Int32.not_lt.mp h1, Int32.not_le.mp h2⟩]
theorem fw_151 {d : Nat} {al : Nat × Nat} {M : Nat → Nat → Int32} {N : Nat → Nat → Int64} {x : Int32} : ai_run d 151 0 [.ref 0, .int x] [] (hM al M N) = some (.inl (some (.int (fn_b (0 ≤ x ∧ x < M 0 5)))), (hM al M N)) := by
  rw [bq_151_0]
  by_cases h1 : x < 0
  · rw [if_pos h1, bq_151_1, bq_151_2, if_pos (Or.inl rfl), fn_b, if_neg (fun q => Int32.not_le.mpr h1 q.1)]
  · rw [if_neg h1]
    by_cases h2 : M 0 5 ≤ x
    · rw [if_pos h2, bq_151_1, bq_151_2, if_pos (Or.inl rfl), fn_b, if_neg (fun q => Int32.not_lt.mpr h2 q.2)]
    · rw [if_neg h2, bq_151_2, if_pos (Or.inr rfl), fn_b, if_pos ⟨Int32.not_lt.mp h1, Int32.not_le.mp h2⟩]
theorem fw_141 {d : Nat} {h : ai_Hp} {x : Int32} : ai_run d 141 0 [.int x] [] h = some (.inl (some (.int (fn_b (0 ≤ x ∧ x < 200)))), h) := by
  rw [bq_141_0]
  by_cases h1 : x < 0
  · rw [if_pos h1, bq_141_1, bq_141_2, if_pos (Or.inl rfl), fn_b, if_neg (fun q => Int32.not_le.mpr h1 q.1)]
  · rw [if_neg h1]
    by_cases h2 : 200 ≤ x
    · rw [if_pos h2, bq_141_1, bq_141_2, if_pos (Or.inl rfl), fn_b, if_neg (fun q => Int32.not_lt.mpr h2 q.2)]
    · rw [if_neg h2, bq_141_2, if_pos (Or.inr rfl), fn_b, if_pos ⟨Int32.not_lt.mp h1, Int32.not_le.mp h2⟩]
theorem fw_152 {d : Nat} {h : ai_Hp} {x : Int32} : ai_run d 152 0 [.int x] [] h = some (.inl (some (.int (fn_b (0 ≤ x ∧ x < 200)))), h) := by
  rw [bq_152_0]
  by_cases h1 : x < 0
  · rw [if_pos h1, bq_152_1, bq_152_2, if_pos (Or.inl rfl), fn_b, if_neg (fun q => Int32.not_le.mpr h1 q.1)]
  · rw [if_neg h1]
    by_cases h2 : 200 ≤ x
    · rw [if_pos h2, bq_152_1, bq_152_2, if_pos (Or.inl rfl), fn_b, if_neg (fun q => Int32.not_lt.mpr h2 q.2)]
    · rw [if_neg h2, bq_152_2, if_pos (Or.inr rfl), fn_b, if_pos ⟨Int32.not_lt.mp h1, Int32.not_le.mp h2⟩]
theorem fw_105 {d : Nat} {al : Nat × Nat} {kl : Nat} {M : Nat → Nat → Int32} {a b c : Int32} : ai_run (d + 1) 105 0 [.ref 0, .int a, .int b, .int c] [] (hC al kl M) = if (1 ≤ a ∧ a ≤ 9) ∧ (1 ≤ b ∧ b ≤ 99) ∧ 0 ≤ c ∧ c ≤ 99 then (if M 4 0 < 8 then (bif ai_in (M 4 0) 8 then some (.inl (some (.int (((M 4 0) + 1) - 1))), hC al kl (ai_up (ai_up (ai_up (ai_up (ai_up M 5 ((M 4 0).toNatClampNeg) a) 6 ((M 4 0).toNatClampNeg) b) 7 ((M 4 0).toNatClampNeg) c) 4 0 ((M 4 0) + 1)) 0 14 0)) else none) else some (.inl (some (.int (-1))), hC al kl (ai_up M 0 14 3))) else some (.inl (some (.int (-1))), hC al kl (ai_up M 0 14 2)) := by
  by_cases h0 : (1 ≤ a ∧ a ≤ 9) <;> by_cases h1 : (1 ≤ b ∧ b ≤ 99) <;> by_cases h2 : (0 ≤ c ∧ c ≤ 99) <;> by_cases h3 : M 4 0 < 8 <;> cases h4 : ai_in (M 4 0) 8 <;> simp only [bq_105_0, bq_105_1, bq_105_2, bq_105_3, bq_105_4, bq_105_5, bq_105_6, bq_105_7, bq_105_8, bq_105_9, bq_105_10, bq_8_0, bq_8_1, bq_136_0, bq_137_0, fb_s, fb_n, fb_0, fn_b0, fn_b01, and_self, and_true, true_and, and_false, false_and, not_true_eq_false, not_false_eq_true, if_true, if_false, cond_true, cond_false, fw_142, h0, h1, h2, h3, h4]
theorem fw_153 {d : Nat} {al : Nat × Nat} {M : Nat → Nat → Int32} {N : Nat → Nat → Int64} {a b c : Int32} : ai_run (d + 1) 153 0 [.ref 0, .int a, .int b, .int c] [] (hM al M N) = if (1 ≤ a ∧ a ≤ 9) ∧ (1 ≤ b ∧ b ≤ 99) ∧ 0 ≤ c ∧ c ≤ 99 then (if M 0 4 = 8 then some (.inl (some (.int (-1))), hM al (ai_up (ai_up (ai_up M 0 0 0) 0 1 3) 0 2 (-1)) N) else (bif ai_in (M 0 4) 8 then some (.inl (some (.int (((M 0 4) + 1) - 1))), hM al (ai_up (ai_up (ai_up (ai_up (ai_up (ai_up (ai_up M 0 0 0) 1 ((M 0 4).toNatClampNeg) a) 2 ((M 0 4).toNatClampNeg) b) 3 ((M 0 4).toNatClampNeg) c) 0 4 ((M 0 4) + 1)) 0 1 0) 0 2 (-1)) N) else none)) else some (.inl (some (.int (-1))), hM al (ai_up (ai_up (ai_up M 0 0 0) 0 1 2) 0 2 (-1)) N) := by
  have e04 : ai_up M 0 0 0 0 4 = M 0 4 := fu_ne (by decide)
  by_cases h0 : (1 ≤ a ∧ a ≤ 9) <;> by_cases h1 : (1 ≤ b ∧ b ≤ 99) <;> by_cases h2 : (0 ≤ c ∧ c ≤ 99) <;> by_cases h3 : M 0 4 = 8 <;> cases h4 : ai_in (M 0 4) 8 <;> simp only [bq_153_0, bq_153_1, bq_153_2, bq_153_3, bq_153_4, bq_153_5, bq_153_6, bq_153_7, bq_153_8, bq_153_9, bq_144_0, bq_146_0, fb_s, fb_n, fb_0, fn_b0, fn_b01, and_self, and_true, true_and, and_false, false_and, not_true_eq_false, not_false_eq_true, if_true, if_false, cond_true, cond_false, fw_148, e04, h0, h1, h2, h3, h4]
