/-! lodgings: the class makes ready -/
abbrev fd_Zc (A : fd_A) (p : Nat) (M : Nat → Nat → Int32) : Prop := fd_Z A p (M 4 0) (M 15) (M 5) (M 6) (M 8) (M 16) (M 17) (M 18)
theorem fd_pu_so {n i x : Nat} {s : Nat → Nat} {Rl : Nat → Nat → Prop} (h : ∀ a b, a < b → b < n → Rl (s a) (s b)) (hi : i ≤ n) (h1 : ∀ j, j < i → Rl (s j) x) (h2 : ∀ j, i ≤ j → j < n → Rl x (s j)) : ∀ a b, a < b → b < n + 1 → Rl (fd_pu s i x a) (fd_pu s i x b) := by
  intro a b hab hb
  unfold fd_pu
  by_cases c1 : a < i
  · rw [if_pos c1]
    by_cases c2 : b < i
    · rw [if_pos c2]; exact h a b hab (by omega)
    · rw [if_neg c2]
      by_cases c3 : b = i
      · rw [if_pos c3]; exact h1 a c1
      · rw [if_neg c3]; exact h a (b - 1) (by omega) (by omega)
  · rw [if_neg c1, if_neg (show ¬ b < i by omega), if_neg (show ¬ b = i by omega)]
    by_cases c3 : a = i
    · rw [if_pos c3]; exact h2 (b - 1) (by omega) (by omega)
    · rw [if_neg c3]; exact h (a - 1) (b - 1) (by omega) (by omega)
theorem fl_19i {d : Nat} {al : Nat × Nat} {kl p r : Nat} {w : Nat → Nat} {π : Nat → Nat} (hr : r < 10) (hw : ∀ j, j ≤ r → w j ≤ 99) (hπ : ∀ j, j < r → π j < r) (hso : ∀ a b, a < b → b < r → w (π a) ≤ w (π b)) : ∀ (i : Nat) (M : Nat → Nat → Int32), i ≤ r → (∀ j, j < i → M 34 j = nI (π j) ∧ M 35 j = nI (w (π j))) → (∀ j, i < j → j ≤ r → M 34 j = nI (π (j - 1)) ∧ M 35 j = nI (w (π (j - 1)))) → (∀ j, i ≤ j → j < r → w r ≤ w (π j)) → ∃ (M' : Nat → Nat → Int32) (i' : Nat), i' ≤ r ∧ ai_run d 19 2 [.ref 33, .int (nI p), .int (nI r), .int (nI (w r)), .int (nI i)] [] (hC al kl M) = ai_run d 19 1 [.ref 33, .int (nI p), .int (nI (r + 1)), .int (nI (w r)), .int (nI i')] [] (hC al kl M') ∧ (∀ a, a ≠ 34 → a ≠ 35 → M' a = M a) ∧ (∀ j, j ≤ r → M' 34 j = nI (fd_pu π i' r j) ∧ M' 35 j = nI (w (fd_pu π i' r j))) ∧ (∀ j, j < i' → w (π j) ≤ w r) ∧ ∀ j, i' ≤ j → j < r → w r ≤ w (π j) := by
  have stop : ∀ (i : Nat) (M : Nat → Nat → Int32), i ≤ r → (∀ j, j < i → M 34 j = nI (π j) ∧ M 35 j = nI (w (π j))) → (∀ j, i < j → j ≤ r → M 34 j = nI (π (j - 1)) ∧ M 35 j = nI (w (π (j - 1)))) → (∀ j, i ≤ j → j < r → w r ≤ w (π j)) → (∀ j, j < i → w (π j) ≤ w r) → ∃ (M' : Nat → Nat → Int32) (i' : Nat), i' ≤ r ∧ ai_run d 19 3 [.ref 33, .int (nI p), .int (nI r), .int (nI (w r)), .int (nI i)] [] (hC al kl M) = ai_run d 19 1 [.ref 33, .int (nI p), .int (nI (r + 1)), .int (nI (w r)), .int (nI i')] [] (hC al kl M') ∧ (∀ a, a ≠ 34 → a ≠ 35 → M' a = M a) ∧ (∀ j, j ≤ r → M' 34 j = nI (fd_pu π i' r j) ∧ M' 35 j = nI (w (fd_pu π i' r j))) ∧ (∀ j, j < i' → w (π j) ≤ w r) ∧ ∀ j, i' ≤ j → j < r → w r ≤ w (π j) := fun i M hi h1 h2 h3 h4 => by
    refine ⟨ai_up (ai_up M 35 i (nI (w r))) 34 i (nI r), i, hi, ?_, fun a a1 a2 => by rw [fu_row a1, fu_row a2], fun j hj => ?_, h4, h3⟩
    · rw [bq_19_3, fi_in (by omega), decide_eq_true (by omega), cond_true, cond_true, nI_clamp (by omega), nI_1]
    · unfold fd_pu
      show ai_up (ai_up M 35 i (nI (w r))) 34 i (nI r) 34 j = _ ∧ ai_up M 35 i (nI (w r)) 35 j = _
      by_cases e : j = i
      · rw [e, fu_at, fu_at, if_neg (Nat.lt_irrefl _), if_pos rfl]; exact ⟨rfl, rfl⟩
      · rw [fu_ne e, fu_ne e]
        by_cases c : j < i
        · rw [if_pos c]; exact h1 j c
        · rw [if_neg c, if_neg e]; exact h2 j (by omega) hj
  intro i
  induction i with
  | zero =>
    intro M hi h1 h2 h3
    rw [bq_19_2, if_pos (show nI 0 ≤ 0 by decide)]
    exact stop 0 M hi h1 h2 h3 (fun j hj => absurd hj (Nat.not_lt_zero _))
  | succ i ih =>
    intro M hi h1 h2 h3
    have i10 : ai_in (nI i) 10 = true := by rw [fi_in (by omega)]; exact decide_eq_true (by omega)
    have i10' : ai_in (nI (i + 1)) 10 = true := by rw [fi_in (by omega)]; exact decide_eq_true (by omega)
    have hwi := hw (π i) (by have := hπ i (by omega); omega)
    have hwr := hw r (Nat.le_refl _)
    rw [bq_19_2, if_neg (show ¬ nI (i + 1) ≤ 0 from nI_ge (a := 0) (by omega) (by omega)), nI_pred, i10, cond_true, nI_clamp (by omega), (h1 i (by omega)).2]
    by_cases c : w (π i) ≤ w r
    · rw [if_pos (nI_le c (by omega))]
      exact stop (i + 1) M hi h1 h2 h3 (fun j hj => by
        by_cases e : j = i
        · rw [e]; exact c
        · exact Nat.le_trans (hso j i (by omega) (by omega)) c)
    · rw [if_neg (nI_ge (by omega) (by omega)), cond_true, i10', cond_true, cond_true, cond_true, nI_clamp (by omega), fi_dec, (h1 i (by omega)).1]
      obtain ⟨M', i', p1, p2, p3, p4⟩ := ih (ai_up (ai_up M 35 (i + 1) (nI (w (π i)))) 34 (i + 1) (nI (π i))) (by omega) (fun j hj => by
        show ai_up (ai_up M 35 (i + 1) (nI (w (π i)))) 34 (i + 1) (nI (π i)) 34 j = _ ∧ ai_up M 35 (i + 1) (nI (w (π i))) 35 j = _
        rw [fu_ne (by omega), fu_ne (by omega)]
        exact h1 j (by omega)) (fun j hj hj' => by
        show ai_up (ai_up M 35 (i + 1) (nI (w (π i)))) 34 (i + 1) (nI (π i)) 34 j = _ ∧ ai_up M 35 (i + 1) (nI (w (π i))) 35 j = _
        by_cases e : j = i + 1
        · rw [e, fu_at, fu_at]; exact ⟨rfl, rfl⟩
        · rw [fu_ne e, fu_ne e]; exact h2 j (by omega) hj') (fun j hj hj' => by
        by_cases e : j = i
        · rw [e]; omega
        · exact h3 j (by omega) hj')
      exact ⟨M', i', p1, p2, fun a a1 a2 => by rw [p3 a a1 a2, fu_row a1, fu_row a2], p4⟩
theorem fl_19 {d : Nat} {al : Nat × Nat} {kl p R : Nat} {w : Nat → Nat} (hR : R ≤ 10) (hp : p < 9) (hw : ∀ j, j < R → w j ≤ 99) : ∀ (m r : Nat) (M : Nat → Nat → Int32) (π : Nat → Nat) (v3 v4 : Value), r + m = R → M 33 2 = nI R → (∀ j, j < R → M 18 (10 * p + j) = nI (w j)) → fd_pm r π → (∀ a b, a < b → b < r → w (π a) ≤ w (π b)) → (∀ j, j < r → M 34 j = nI (π j) ∧ M 35 j = nI (w (π j))) → ∃ (M' : Nat → Nat → Int32) (π' : Nat → Nat), ai_run d 19 1 [.ref 33, .int (nI p), .int (nI r), v3, v4] [] (hC al kl M) = some (.inl none, hC al kl M') ∧ (∀ a, a ≠ 34 → a ≠ 35 → M' a = M a) ∧ fd_pm R π' ∧ (∀ a b, a < b → b < R → w (π' a) ≤ w (π' b)) ∧ ∀ j, j < R → M' 34 j = nI (π' j) ∧ M' 35 j = nI (w (π' j))
  | 0, r, M, π, v3, v4, hr, h33, h18, hpm, hso, hrow => by
    have e : r = R := by omega
    subst e
    refine ⟨M, π, ?_, fun _ _ _ => rfl, hpm, hso, hrow⟩
    rw [bq_19_1, h33, if_pos Int32.le_rfl, bq_19_4]
  | m + 1, r, M, π, v3, v4, hr, h33, h18, hpm, hso, hrow => by
    obtain ⟨M1, i', p1, p2, p3, p4, p5, p6⟩ := fl_19i (d := d) (al := al) (kl := kl) (p := p) (show r < 10 by omega) (fun j hj => hw j (by omega)) hpm.1 hso r M (Nat.le_refl _) hrow (fun j h1 h2 => by omega) (fun j h1 h2 => by omega)
    obtain ⟨M', π', q1, q2, q3⟩ := fl_19 (d := d) (al := al) (kl := kl) hR hp hw m (r + 1) M1 (fd_pu π i' r) (.int (nI (w r))) (.int (nI i')) (by omega) (by rw [p3 33 (by decide) (by decide)]; exact h33) (fun j hj => by rw [p3 18 (by decide) (by decide)]; exact h18 j hj) (hpm.pu p1) (fd_pu_so (Rl := fun x y => w x ≤ w y) hso p1 p5 p6) (fun j hj => p4 j (by omega))
    refine ⟨M', π', ?_, fun a a1 a2 => by rw [q2 a a1 a2, p3 a a1 a2], q3⟩
    rw [bq_19_1, h33, if_neg (nI_ge (by omega) (by omega)), fi_r.1, fi_in (by omega), decide_eq_true (by omega), cond_true, nI_clamp (by omega), h18 r (by omega), p2, q1]
theorem fl_20i {d : Nat} {al : Nat × Nat} {kl n r : Nat} {w : Nat → Nat} {π : Nat → Nat} (hn : n ≤ 8) (hr : r < n) (hw : ∀ j, j < n → w j ≤ 99) (hπ : ∀ j, j < r → π j < r) (hso : ∀ a b, a < b → b < r → w (π b) ≤ w (π a)) : ∀ (i : Nat) (M : Nat → Nat → Int32), i ≤ r → (∀ j, j < n → M 41 j = nI (w j)) → (∀ j, j < i → M 42 j = nI (π j)) → (∀ j, i < j → j ≤ r → M 42 j = nI (π (j - 1))) → (∀ j, i ≤ j → j < r → w (π j) ≤ w r) → ∃ (M' : Nat → Nat → Int32) (i' : Nat), i' ≤ r ∧ ai_run d 20 2 [.ref 33, .int (nI r), .int (nI i)] [] (hC al kl M) = ai_run d 20 1 [.ref 33, .int (nI (r + 1)), .int (nI i')] [] (hC al kl M') ∧ (∀ a, a ≠ 42 → M' a = M a) ∧ (∀ j, j ≤ r → M' 42 j = nI (fd_pu π i' r j)) ∧ (∀ j, j < i' → w r ≤ w (π j)) ∧ ∀ j, i' ≤ j → j < r → w (π j) ≤ w r := by
  have stop : ∀ (i : Nat) (M : Nat → Nat → Int32), i ≤ r → (∀ j, j < i → M 42 j = nI (π j)) → (∀ j, i < j → j ≤ r → M 42 j = nI (π (j - 1))) → (∀ j, i ≤ j → j < r → w (π j) ≤ w r) → (∀ j, j < i → w r ≤ w (π j)) → ∃ (M' : Nat → Nat → Int32) (i' : Nat), i' ≤ r ∧ ai_run d 20 3 [.ref 33, .int (nI r), .int (nI i)] [] (hC al kl M) = ai_run d 20 1 [.ref 33, .int (nI (r + 1)), .int (nI i')] [] (hC al kl M') ∧ (∀ a, a ≠ 42 → M' a = M a) ∧ (∀ j, j ≤ r → M' 42 j = nI (fd_pu π i' r j)) ∧ (∀ j, j < i' → w r ≤ w (π j)) ∧ ∀ j, i' ≤ j → j < r → w (π j) ≤ w r := fun i M hi h1 h2 h3 h4 => by
    refine ⟨ai_up M 42 i (nI r), i, hi, ?_, fun a a1 => by rw [fu_row a1], fun j hj => ?_, h4, h3⟩
    · rw [bq_20_3, fi_in (by omega), decide_eq_true (by omega), cond_true, nI_clamp (by omega), nI_1]
    · unfold fd_pu
      by_cases e : j = i
      · rw [e, fu_at, if_neg (Nat.lt_irrefl _), if_pos rfl]
      · rw [fu_ne e]
        by_cases c : j < i
        · rw [if_pos c]; exact h1 j c
        · rw [if_neg c, if_neg e]; exact h2 j (by omega) hj
  intro i
  induction i with
  | zero =>
    intro M hi h41 h1 h2 h3
    rw [bq_20_2, if_pos (show nI 0 ≤ 0 by decide)]
    exact stop 0 M hi h1 h2 h3 (fun j hj => absurd hj (Nat.not_lt_zero _))
  | succ i ih =>
    intro M hi h41 h1 h2 h3
    have i8 : ai_in (nI i) 8 = true := by rw [fi_in (by omega)]; exact decide_eq_true (by omega)
    have i8' : ai_in (nI (i + 1)) 8 = true := by rw [fi_in (by omega)]; exact decide_eq_true (by omega)
    have i8r : ai_in (nI r) 8 = true := by rw [fi_in (by omega)]; exact decide_eq_true (by omega)
    have hπi := hπ i (by omega)
    have i8π : ai_in (nI (π i)) 8 = true := by rw [fi_in (by omega)]; exact decide_eq_true (by omega)
    have hwi := hw (π i) (by omega)
    have hwr := hw r hr
    rw [bq_20_2, if_neg (show ¬ nI (i + 1) ≤ 0 from nI_ge (a := 0) (by omega) (by omega)), nI_pred, i8, cond_true, nI_clamp (n := i) (by omega), h1 i (by omega), i8π, cond_true, i8r, cond_true, nI_clamp (n := r) (by omega), nI_clamp (n := π i) (by omega), h41 r hr, h41 (π i) (by omega)]
    by_cases c : w r ≤ w (π i)
    · rw [if_pos (nI_le c (by omega))]
      exact stop (i + 1) M hi h1 h2 h3 (fun j hj => by
        by_cases e : j = i
        · rw [e]; exact c
        · exact Nat.le_trans c (hso j i (by omega) (by omega)))
    · rw [if_neg (nI_ge (by omega) (by omega)), cond_true, i8', cond_true, nI_clamp (by omega), fi_dec]
      obtain ⟨M', i', p1, p2, p3, p4⟩ := ih (ai_up M 42 (i + 1) (nI (π i))) (by omega) h41 (fun j hj => by
        rw [fu_ne (by omega)]
        exact h1 j (by omega)) (fun j hj hj' => by
        by_cases e : j = i + 1
        · rw [e, fu_at]; rfl
        · rw [fu_ne e]; exact h2 j (by omega) hj') (fun j hj hj' => by
        by_cases e : j = i
        · rw [e]; omega
        · exact h3 j (by omega) hj')
      exact ⟨M', i', p1, p2, fun a a1 => by rw [p3 a a1, fu_row a1], p4⟩
theorem fl_20 {d : Nat} {al : Nat × Nat} {kl n : Nat} {w : Nat → Nat} (hn : n ≤ 8) (hw : ∀ j, j < n → w j ≤ 99) : ∀ (m r : Nat) (M : Nat → Nat → Int32) (π : Nat → Nat) (v2 : Value), r + m = n → M 4 0 = nI n → (∀ j, j < n → M 41 j = nI (w j)) → fd_pm r π → (∀ a b, a < b → b < r → w (π b) ≤ w (π a)) → (∀ j, j < r → M 42 j = nI (π j)) → ∃ (M' : Nat → Nat → Int32) (π' : Nat → Nat), ai_run d 20 1 [.ref 33, .int (nI r), v2] [] (hC al kl M) = some (.inl none, hC al kl M') ∧ (∀ a, a ≠ 42 → M' a = M a) ∧ fd_pm n π' ∧ (∀ a b, a < b → b < n → w (π' b) ≤ w (π' a)) ∧ ∀ j, j < n → M' 42 j = nI (π' j)
  | 0, r, M, π, v2, hr, h4, h41, hpm, hso, hrow => by
    have e : r = n := by omega
    subst e
    refine ⟨M, π, ?_, fun _ _ => rfl, hpm, hso, hrow⟩
    rw [bq_20_1, h4, if_pos Int32.le_rfl, bq_20_4]
  | m + 1, r, M, π, v2, hr, h4, h41, hpm, hso, hrow => by
    obtain ⟨M1, i', p1, p2, p3, p4, p5, p6⟩ := fl_20i (d := d) (al := al) (kl := kl) hn (show r < n by omega) hw hpm.1 hso r M (Nat.le_refl _) h41 hrow (fun j h1 h2 => by omega) (fun j h1 h2 => by omega)
    obtain ⟨M', π', q1, q2, q3⟩ := fl_20 (d := d) (al := al) (kl := kl) hn hw m (r + 1) M1 (fd_pu π i' r) (.int (nI i')) (by omega) (by rw [p3 4 (by decide)]; exact h4) (fun j hj => by rw [p3 41 (by decide)]; exact h41 j hj) (hpm.pu p1) (fd_pu_so (Rl := fun x y => w y ≤ w x) hso p1 p5 p6) (fun j hj => p4 j (by omega))
    refine ⟨M', π', ?_, fun a a1 => by rw [q2 a a1, p3 a a1], q3⟩
    rw [bq_20_1, h4, if_neg (nI_ge (by omega) (by omega)), p2, q1]
