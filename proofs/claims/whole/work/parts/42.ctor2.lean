theorem lx_Su0 {ci nf : Nat} : ai_Su (ai_ob ci nf lx_h0) := by
  intro k j _
  by_cases hk : k = 0
  · subst hk; exact ⟨rfl, rfl⟩
  · simp [ai_ob, lx_h0, hk]
theorem lx_chk_spec {S : List (Nat × Nat)} {R : Nat → Nat → Option Nat} {n mi ci nf f : Nat} {al : Nat × Nat} (hn : n = S.length) (hR : ∀ k j, n ≤ k ∨ 64 ≤ j → R k j = none) {m : Nat → Nat → Int32} (h1 : lx_chk S R n al (lx_run f mi ci nf) = true) (h2 : lx_chm S m n (lx_run f mi ci nf) = true) : ∃ M : Nat → Nat → Int32, ai_run 200 mi 0 (ai_ent (ai_mx mi) [.ref 0]) [] (ai_ob ci nf lx_h0) = some (.inl none, (al, S, R, M, fun _ _ => 0)) ∧ ∀ k j, k < n → j < lx_sz ((S[k]?).getD (0, 0)) → M k j = m k j := by
  cases hr : lx_run f mi ci nf with
  | none => rw [hr] at h1; cases h1
  | some q =>
    obtain ⟨o, al', S', R', M', N'⟩ := q
    rw [hr] at h1 h2
    cases o with
    | inr a => cases h1
    | inl v =>
      cases v with
      | some v => cases h1
      | none =>
        simp only [lx_chk, lx_chm, Bool.and_eq_true, decide_eq_true_eq, List.all_eq_true, List.mem_range] at h1 h2
        obtain ⟨e1, e2, e3⟩ := h1
        have hsu : ai_Su (al', S', R', M', N') := ai_ex_pr f hr lx_Su0
        subst e1 e2
        have hRR : R' = R := by
          funext k j
          by_cases hk : n ≤ k ∨ 64 ≤ j
          · rw [hR k j hk]
            exact (hsu k j (by rw [← hn]; exact hk)).1
          · exact (e3 k (by omega) j (by omega)).1
        have hNN : N' = fun _ _ => 0 := by
          funext k j
          by_cases hk : n ≤ k ∨ 64 ≤ j
          · exact (hsu k j (by rw [← hn]; exact hk)).2
          · exact (e3 k (by omega) j (by omega)).2
        subst hRR hNN
        exact ⟨M', ai_run_iff.mpr ⟨f, hr⟩, fun k j hk hj => h2 k hk j hj⟩
theorem lx_Rt {t : List (List (Option Nat))} {n : Nat} (hl : t.length = n) (hc : (t.all fun r => Nat.ble r.length 64) = true) (k j : Nat) (h : n ≤ k ∨ 64 ≤ j) : (((t[k]?).getD [])[j]?).getD none = none := by
  cases hk : t[k]? with
  | none => simp
  | some r =>
    have hk' := (List.getElem?_eq_some_iff.mp hk).1
    have h1 := Nat.le_of_ble_eq_true (List.all_eq_true.mp hc r (List.mem_of_getElem? hk))
    rcases h with h | h
    · omega
    · rw [Option.getD_some, List.getElem?_eq_none (by omega)]
      rfl
theorem lx_ctC : ∃ M : Nat → Nat → Int32, ai_run 200 104 0 (ai_ent (ai_mx 104) [.ref 0]) [] (ai_ob 9 15 lx_h0) = some (.inl none, hC (55, 6195) 0 M) ∧ ∀ k j, k < 55 → j < lx_sz (((SC 0)[k]?).getD (0, 0)) → M k j = lx_mC k j :=
  lx_chk_spec (n := 55) rfl (lx_Rt (t := RCt) (by decide) (by decide)) lx_t1 lx_t3
theorem lx_ctM : ∃ M : Nat → Nat → Int32, ai_run 200 149 0 (ai_ent (ai_mx 149) [.ref 0]) [] (ai_ob 11 64 lx_h0) = some (.inl none, hM (42, 106418) M (fun _ _ => 0)) ∧ ∀ k j, k < 42 → j < lx_sz ((SM[k]?).getD (0, 0)) → M k j = lx_mM k j :=
  lx_chk_spec (n := 42) rfl (lx_Rt (t := RMt) (by decide) (by decide)) lx_t2 lx_t4
