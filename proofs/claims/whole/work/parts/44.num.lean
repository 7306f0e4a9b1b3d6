/-! small numbers; the households -/
theorem fi_in {n k : Nat} (h : n < 2 ^ 31) : ai_in (nI n) k = decide (n < k) := by
  unfold ai_in
  rw [nI_toInt h]
  have h0 : (0 : Int) ≤ (n : Int) := Int.natCast_nonneg n
  rw [decide_eq_true h0, Bool.true_and]
  by_cases hk : n < k
  · rw [decide_eq_true hk, decide_eq_true (Int.ofNat_lt.mpr hk)]
  · rw [decide_eq_false hk, decide_eq_false (fun q => hk (Int.ofNat_lt.mp q))]
def fn_court (n : Nat) (c0 : Int32) (r5 r6 r7 r8 : Nat → Int32) (m4 : Int32) (s1 s2 s3 s4 : Nat → Int32) : Prop := (n ≤ 8 ∧ c0 = nI n ∧ m4 = nI n) ∧ (∀ j : Nat, j < 8 → r5 j = s1 j ∧ r6 j = s2 j ∧ r7 j = s3 j ∧ r8 j = s4 j ∧ 0 ≤ r8 j ∧ r8 j < 256) ∧ ∀ j : Nat, j < n → (1 ≤ r5 j ∧ r5 j ≤ 9) ∧ (1 ≤ r6 j ∧ r6 j ≤ 99) ∧ 0 ≤ r7 j ∧ r7 j ≤ 99
/-- the class says no: -1, for a reason -/
def fn_noC (M : Nat → Nat → Int32) (e : Int32) : Nat → Nat → Int32 := ai_up M 0 14 e
/-- the reference says no, or yes (0) -/
def fn_noM (M : Nat → Nat → Int32) (e : Int32) : Nat → Nat → Int32 := ai_up (ai_up M 0 1 e) 0 2 (-1)
def fn_z (M : Nat → Nat → Int32) : Nat → Nat → Int32 := ai_up M 0 0 0
def fn_hhC (M : Nat → Nat → Int32) (n : Nat) (a b c : Int32) : Nat → Nat → Int32 := ai_up (ai_up (ai_up (ai_up M 5 n a) 6 n b) 7 n c) 4 0 (nI (n + 1))
def fn_hhM (M : Nat → Nat → Int32) (n : Nat) (a b c : Int32) : Nat → Nat → Int32 := ai_up (ai_up (ai_up (ai_up M 1 n a) 2 n b) 3 n c) 0 4 (nI (n + 1))
theorem fn_hh {n : Nat} {M MM : Nat → Nat → Int32} {a b c : Int32} (h : fn_court n (M 4 0) (M 5) (M 6) (M 7) (M 8) (MM 0 4) (MM 1) (MM 2) (MM 3) (MM 4)) (hn : n < 8) (ha : 1 ≤ a ∧ a ≤ 9) (hb : 1 ≤ b ∧ b ≤ 99) (hc : 0 ≤ c ∧ c ≤ 99) : fn_court (n + 1) (nI (n + 1)) (upd (M 5) n a) (upd (M 6) n b) (upd (M 7) n c) (M 8) (nI (n + 1)) (upd (MM 1) n a) (upd (MM 2) n b) (upd (MM 3) n c) (MM 4) := by
  obtain ⟨⟨h1, h2, h3⟩, h4, h5⟩ := h
  refine ⟨⟨by omega, rfl, rfl⟩, fun j hj => ?_, fun j hj => ?_⟩
  · obtain ⟨e1, e2, e3, e4⟩ := h4 j hj
    by_cases hjn : j = n
    · subst hjn
      exact ⟨by rw [pk_us, pk_us], by rw [pk_us, pk_us], by rw [pk_us, pk_us], e4⟩
    · exact ⟨by rw [pk_un hjn, pk_un hjn]; exact e1, by rw [pk_un hjn, pk_un hjn]; exact e2, by rw [pk_un hjn, pk_un hjn]; exact e3, e4⟩
  · by_cases hjn : j = n
    · subst hjn
      rw [pk_us, pk_us, pk_us]
      exact ⟨ha, hb, hc⟩
    · rw [pk_un hjn, pk_un hjn, pk_un hjn]
      exact h5 j (by omega)
theorem fs_105 {d : Nat} {al am : Nat × Nat} {kl n : Nat} {M MM : Nat → Nat → Int32} {N : Nat → Nat → Int64} {a b c : Int32} (h : fn_court n (M 4 0) (M 5) (M 6) (M 7) (M 8) (MM 0 4) (MM 1) (MM 2) (MM 3) (MM 4)) :
    (∃ e : Int32, e ≠ 4 ∧ ai_run (d + 1) 105 0 [.ref 0, .int a, .int b, .int c] [] (hC al kl M) = some (.inl (some (.int (-1))), hC al kl (fn_noC M e)) ∧ ai_run (d + 1) 153 0 [.ref 0, .int a, .int b, .int c] [] (hM am MM N) = some (.inl (some (.int (-1))), hM am (fn_noM (fn_z MM) e) N)) ∨
    (n < 8 ∧ (1 ≤ a ∧ a ≤ 9) ∧ (1 ≤ b ∧ b ≤ 99) ∧ (0 ≤ c ∧ c ≤ 99) ∧ ai_run (d + 1) 105 0 [.ref 0, .int a, .int b, .int c] [] (hC al kl M) = some (.inl (some (.int (nI n))), hC al kl (fn_noC (fn_hhC M n a b c) 0)) ∧ ai_run (d + 1) 153 0 [.ref 0, .int a, .int b, .int c] [] (hM am MM N) = some (.inl (some (.int (nI n))), hM am (fn_noM (fn_hhM (fn_z MM) n a b c) 0) N)) := by
  obtain ⟨⟨h1, h2, h3⟩, -, -⟩ := h
  rw [fw_105, fw_153, h2, h3, fi_in (by omega), nI_clamp (by omega), nI_1, nI_pred]
  by_cases hp : (1 ≤ a ∧ a ≤ 9) ∧ (1 ≤ b ∧ b ≤ 99) ∧ 0 ≤ c ∧ c ≤ 99
  · rw [if_pos hp, if_pos hp]
    by_cases hn : n < 8
    · right
      have e1 : nI n < 8 := nI_lt (b := 8) hn (by omega)
      have e2 : ¬ nI n = 8 := fun q => absurd ((nI_eq (b := 8) (by omega) (by omega)).mp q) (by omega)
      rw [if_pos e1, if_neg e2, decide_eq_true hn]
      exact ⟨hn, hp.1, hp.2.1, hp.2.2, rfl, rfl⟩
    · left
      have hn8 : n = 8 := by omega
      subst hn8
      rw [if_neg (by decide), if_pos (by decide)]
      exact ⟨3, by decide, rfl, rfl⟩
  · rw [if_neg hp, if_neg hp]
    exact Or.inl ⟨2, by decide, rfl, rfl⟩
