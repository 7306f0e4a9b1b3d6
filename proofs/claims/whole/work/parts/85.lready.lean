/-! lodgings: all made ready -/
/-- the rooms by their spots; mouths count or not -/
def fd_N (A : fd_A) (π : Nat → Nat) (wd : Bool) : fd_A := (A.1, A.2.1, fun h => bif wd then A.2.2.1 h else 0, A.2.2.2.1, A.2.2.2.2.1, fun s => A.2.2.2.2.2.1 (π s), fun s => A.2.2.2.2.2.2.1 (π s), fun s => A.2.2.2.2.2.2.2 (π s))
theorem fd_al1 {R : Nat} (hR : R ≤ 10) : ((1 : Int32) <<< (nI R &&& 31)) - (1 : Int32) = nI (2 ^ R - 1) := by
  have h : ∀ R, R < 11 → ((1 : Int32) <<< (nI R &&& 31)) - (1 : Int32) = nI (2 ^ R - 1) := by decide +kernel
  exact h R (by omega)
theorem fd_bs_all {R : Nat} (hR : R ≤ 10) : fd_bs (((1 : Int32) <<< (nI R &&& 31)) - (1 : Int32)) (fun t => t < R) := by
  refine ⟨2 ^ R - 1, ?_, fd_al1 hR, fun t _ => by rw [Nat.testBit_two_pow_sub_one, decide_eq_true_iff]⟩
  have : 2 ^ R ≤ 2 ^ 10 := Nat.pow_le_pow_right (by omega) hR
  omega
theorem fw_17 {d : Nat} {al : Nat × Nat} {kl n : Nat} {M : Nat → Nat → Int32} (hn : n ≤ 8) (h4 : M 4 0 = nI n) : ai_run d 17 0 [.ref 33] [] (hC al kl M) = some (.inl (some (.int (nI (2 ^ n - 1)))), hC al kl M) := by
  rw [bq_17_0, h4, fd_al1 (by omega)]
theorem fl_10 {d : Nat} {al : Nat × Nat} {kl p : Nat} {A : fd_A} {M : Nat → Nat → Int32} (hz : fd_Zc A p M) : ∀ (m k : Nat), k + m = A.1 → 0 < k → (∀ j, j < k → A.2.2.2.1 j = A.2.2.2.1 0) → ∃ b : Bool, ai_run d 10 1 [.ref 4, .int (nI k)] [] (hC al kl M) = some (.inl (some (.int (fn_bi b))), hC al kl M) ∧ (b = false → ∀ j, j < A.1 → A.2.2.2.1 j = A.2.2.2.1 0)
  | 0, k, hk, h0, hj => by
    have e : k = A.1 := by omega
    exact ⟨false, by rw [bq_10_1, hz.1.2.2.2.1, e, if_pos Int32.le_rfl, bq_10_3]; rfl, fun _ j hj' => hj j (by omega)⟩
  | m + 1, k, hk, h0, hj => by
    have hn := hz.1.1
    obtain ⟨⟨a1, a1'⟩, -⟩ := hz.2.1 k (by omega)
    obtain ⟨⟨b1, b1'⟩, -⟩ := hz.2.1 0 (by omega)
    rw [bq_10_1, hz.1.2.2.2.1, if_neg (nI_ge (by omega) (by omega)), fi_in (by omega), decide_eq_true (by omega), cond_true, nI_clamp (by omega), a1, b1]
    by_cases c : A.2.2.2.1 k = A.2.2.2.1 0
    · obtain ⟨b, p1, p2⟩ := fl_10 (d := d) (al := al) (kl := kl) hz m (k + 1) (by omega) (by omega) (fun j hj' => by
        by_cases e : j = k
        · rw [e]; exact c
        · exact hj j (by omega))
      exact ⟨b, by rw [if_pos (by rw [c]), bq_10_2, nI_1, p1], p2⟩
    · exact ⟨true, by rw [if_neg (fun z => c ((nI_eq (by omega) (by omega)).mp z))]; rfl, fun z => absurd z (by decide)⟩
theorem fw_10 {d : Nat} {al : Nat × Nat} {kl p : Nat} {A : fd_A} {M : Nat → Nat → Int32} (hz : fd_Zc A p M) {v1 : Value} : ∃ b : Bool, ai_run d 10 0 [.ref 4, v1] [] (hC al kl M) = some (.inl (some (.int (fn_bi b))), hC al kl M) ∧ (b = false → ∀ j, j < A.1 → A.2.2.2.1 j = A.2.2.2.1 0) := by
  have hn := hz.1.1
  by_cases h0 : A.1 = 0
  · refine ⟨false, ?_, fun _ j hj => by omega⟩
    rw [bq_10_0, bq_10_1, hz.1.2.2.2.1, h0, if_pos (by decide), bq_10_3]; rfl
  · obtain ⟨b, p1, p2⟩ := fl_10 (d := d) (al := al) (kl := kl) hz (A.1 - 1) 1 (by omega) (by omega) (fun j hj => by rw [show j = 0 by omega])
    exact ⟨b, by rw [bq_10_0]; exact p1, p2⟩
theorem fl_18 {d : Nat} {al : Nat × Nat} {kl p : Nat} {A : fd_A} {wd : Bool} {x1 x2 : Int32} : ∀ (m k : Nat) (M : Nat → Nat → Int32) (v5 : Value), k + m = A.1 → fd_Zc A p M → M 33 2 = nI A.2.1 → (∀ j, j < k → M 41 j = nI (bif wd then A.2.2.1 j else 0) ∧ fd_bs (M 40 j) (fun t => t < A.2.1)) → ∃ M', ai_run d 18 4 [.ref 33, .int x1, .int x2, .int (fn_bi wd), .int (nI k), v5] [] (hC al kl M) = ai_run d 18 7 [.ref 33, .int x1, .int x2, .int (fn_bi wd), .int (nI A.1), ai_un] [] (hC al kl M') ∧ (∀ a, a ≠ 40 → a ≠ 41 → M' a = M a) ∧ ∀ j, j < A.1 → M' 41 j = nI (bif wd then A.2.2.1 j else 0) ∧ fd_bs (M' 40 j) (fun t => t < A.2.1)
  | 0, k, M, v5, hk, hz, h33, hj => by
    have e : k = A.1 := by omega
    subst e
    exact ⟨M, by rw [bq_18_4, hz.1.2.2.2.1, if_pos Int32.le_rfl], fun _ _ _ => rfl, hj⟩
  | m + 1, k, M, v5, hk, hz, h33, hj => by
    have hn := hz.1.1
    have hR := hz.1.2.1
    obtain ⟨-, ⟨a1, a1'⟩, -⟩ := hz.2.1 k (by omega)
    have i8 : ai_in (nI k) 8 = true := by rw [fi_in (by omega)]; exact decide_eq_true (by omega)
    have i72 : ai_in (nI k) 72 = true := by rw [fi_in (by omega)]; exact decide_eq_true (by omega)
    obtain ⟨M', p1, p2, p3⟩ := fl_18 (d := d) (al := al) (kl := kl) (wd := wd) (x1 := x1) (x2 := x2) m (k + 1) (ai_up (ai_up M 41 k (nI (bif wd then A.2.2.1 k else 0))) 40 k (((1 : Int32) <<< (nI A.2.1 &&& 31)) - (1 : Int32))) ai_un (by omega) hz h33 (fun j hj' => by
      show ai_up M 41 k _ 41 j = _ ∧ fd_bs (ai_up (ai_up M 41 k _) 40 k _ 40 j) _
      by_cases e : j = k
      · subst e; rw [fu_at, fu_at]; exact ⟨rfl, fd_bs_all hR⟩
      · rw [fu_ne e, fu_ne e]; exact hj j (by omega))
    have run3 : ai_run d 18 4 [.ref 33, .int x1, .int x2, .int (fn_bi wd), .int (nI k), v5] [] (hC al kl M) = ai_run d 18 6 [.ref 33, .int x1, .int x2, .int (fn_bi wd), .int (nI k), ai_un] [.int (nI (bif wd then A.2.2.1 k else 0)), .int (nI k), .ref 41] (hC al kl M) := by
      rw [bq_18_4, hz.1.2.2.2.1, if_neg (nI_ge (by omega) (by omega))]
      cases wd with
      | false => rw [if_pos (show fn_bi false = 0 from rfl), bq_18_5]; rfl
      | true => rw [if_neg (show ¬ fn_bi true = 0 by decide), i8, cond_true, nI_clamp (by omega), a1]; rfl
    refine ⟨M', ?_, fun a b1 b2 => by rw [p2 a b1 b2, fu_row b1, fu_row b2], p3⟩
    rw [run3, bq_18_6, i8, cond_true, i72, cond_true, nI_clamp (by omega), nI_1, h33, p1]
theorem fl_18r {d : Nat} {al : Nat × Nat} {kl p : Nat} {A : fd_A} {π : Nat → Nat} {wc wd : Bool} : ∀ (m s : Nat) (M : Nat → Nat → Int32) (v2 : Value), s + m = A.2.1 → fd_Yc A p π M → (∀ j, j < s → fd_J A wc wd π j A.2.1 (M 36 j) (M 37 j) (M 38 j) (M 39 j)) → ∃ M', ai_run (d + 2) 18 13 [.ref 33, .int (nI p), v2, .int (fn_bi wd), .int (fn_bi wc), .int (nI s)] [] (hC al kl M) = some (.inl none, hC al kl M') ∧ (∀ a, a < 36 ∨ 39 < a → M' a = M a) ∧ ∀ j, j < A.2.1 → fd_J A wc wd π j A.2.1 (M' 36 j) (M' 37 j) (M' 38 j) (M' 39 j)
  | 0, s, M, v2, hs, hY, hj => by
    have e : s = A.2.1 := by omega
    subst e
    exact ⟨M, by rw [bq_18_13, hY.2.1, if_pos Int32.le_rfl, bq_18_15], fun _ _ => rfl, hj⟩
  | m + 1, s, M, v2, hs, hY, hj => by
    have hR := hY.1.1.2.1
    obtain ⟨M1, p1, p2, p3, p4⟩ := fw_21 (d := d) (al := al) (kl := kl) (wc := wc) (wd := wd) (v5 := ai_un) (v6 := ai_un) (v7 := ai_un) (v8 := ai_un) (v9 := ai_un) (v10 := ai_un) (show s < A.2.1 by omega) hY
    have hY1 : fd_Yc A p π M1 := by
      unfold fd_Yc
      rw [p2 4 (by omega), p2 15 (by omega), p2 5 (by omega), p2 6 (by omega), p2 8 (by omega), p2 16 (by omega), p2 17 (by omega), p2 18 (by omega), p2 33 (by omega), p2 34 (by omega), p2 35 (by omega)]
      exact hY
    obtain ⟨M', q1, q2, q3⟩ := fl_18r (d := d) (al := al) (kl := kl) (wc := wc) (wd := wd) m (s + 1) M1 ai_un (by omega) hY1 (fun j hj' => by
      by_cases e : j = s
      · rw [e]; exact p4
      · rw [p3 36 j e, p3 37 j e, p3 38 j e, p3 39 j e]; exact hj j (by omega))
    refine ⟨M', ?_, fun a ha => by rw [q2 a ha, p2 a ha], q3⟩
    rw [bq_18_13, hY.2.1, if_neg (nI_ge (by omega) (by omega)), p1, fb_n, bq_18_14, nI_1, q1]
theorem fw_18 {d : Nat} {al : Nat × Nat} {kl p : Nat} {A : fd_A} {rk wd : Bool} {M : Nat → Nat → Int32} (hz : fd_Zc A p M) (hy : fd_By A) (h9 : 0 ≤ nI p ∧ nI p < M 9 0) : ∃ (M' : Nat → Nat → Int32) (π o : Nat → Nat) (wc : Bool), ai_run (d + 2) 18 0 [.ref 33, .int (nI p), .int (fn_bi rk), .int (fn_bi wd), ai_un, ai_un] [] (hC al kl M) = some (.inl none, hC al kl M') ∧ (∀ a, a < 33 ∨ 44 < a → M' a = M a) ∧ fd_pm A.2.1 π ∧ (∀ s, s < A.2.1 → M' 34 s = nI (π s)) ∧ fd_T (fd_N A π wd) wc o M' ∧ (∀ k, k < A.1 → fd_bs (M' 40 k) (fun t => t < A.2.1)) ∧ (wc = rk ∨ (wc = false ∧ ∀ h k, h < A.1 → k < A.1 → A.2.2.2.1 h = A.2.2.2.1 k)) := by
  obtain ⟨⟨z1, z2, z3, z4, z5⟩, zh, zr⟩ := id hz
  obtain ⟨M1, p1, p2, p3⟩ := fl_18 (d := d + 2) (al := al) (kl := kl) (p := p) (A := A) (wd := wd) (x1 := nI p) (x2 := fn_bi rk) A.1 0 (ai_up M 33 2 (nI A.2.1)) ai_un (by omega) hz fu_at (fun j hj => absurd hj (Nat.not_lt_zero _))
  have e33 : M1 33 2 = nI A.2.1 := by rw [p2 33 (by decide) (by decide)]; exact fu_at
  have row1 : ∀ a, a ≠ 33 → a ≠ 40 → a ≠ 41 → M1 a = M a := fun a a1 a2 a3 => by rw [p2 a a2 a3, fu_row a1]
  obtain ⟨M2, π, q1, q2, q3, q4, q5⟩ := fl_19 (d := d + 1) (al := al) (kl := kl) (p := p) (w := A.2.2.2.2.2.2.2) z2 z3 (fun j hj => (zr j hj).2.2.2) A.2.1 0 M1 (fun j => j) ai_un ai_un (by omega) e33 (fun j hj => by rw [row1 18 (by decide) (by decide) (by decide)]; exact (zr j hj).2.2.1) ⟨fun i hi => hi, fun _ => rfl⟩ (fun a b _ hb => absurd hb (Nat.not_lt_zero _)) (fun j hj => absurd hj (Nat.not_lt_zero _))
  obtain ⟨M3, o, r1, r2, r3, r4, r5⟩ := fl_20 (d := d + 1) (al := al) (kl := kl) (w := fun h => bif wd then A.2.2.1 h else 0) z1 (fun j hj => by
    cases wd with
    | true => exact (zh j hj).2.1.2
    | false => exact Nat.zero_le _) A.1 0 M2 (fun j => j) ai_un (by omega) (by rw [q2 4 (by decide) (by decide), row1 4 (by decide) (by decide) (by decide)]; exact z4) (fun j hj => by rw [q2 41 (by decide) (by decide)]; exact (p3 j hj).1) ⟨fun i hi => hi, fun _ => rfl⟩ (fun a b _ hb => absurd hb (Nat.not_lt_zero _)) (fun j hj => absurd hj (Nat.not_lt_zero _))
  have row3 : ∀ a, a < 33 ∨ 44 < a → M3 a = M a := fun a ha => by rw [r2 a (by omega), q2 a (by omega) (by omega), row1 a (by omega) (by omega) (by omega)]
  have hz3 : fd_Zc A p M3 := by
    unfold fd_Zc
    rw [row3 4 (by omega), row3 15 (by omega), row3 5 (by omega), row3 6 (by omega), row3 8 (by omega), row3 16 (by omega), row3 17 (by omega), row3 18 (by omega)]
    exact hz
  have hY3 : fd_Yc A p π M3 := ⟨hz3, by rw [r2 33 (by decide), q2 33 (by decide) (by decide)]; exact e33, fun s hs => ⟨by rw [r2 34 (by decide)]; exact (q5 s hs).1, q3.1 s hs, by rw [r2 35 (by decide)]; exact (q5 s hs).2⟩⟩
  obtain ⟨b, b1, b2⟩ := fw_10 (d := d + 1) (al := al) (kl := kl) (v1 := ai_un) hz3
  have hwc : ∃ wc : Bool, ai_run (d + 2) 18 9 [.ref 33, .int (nI p), .int (fn_bi rk), .int (fn_bi wd), ai_un, ai_un] [] (hC al kl M3) = ai_run (d + 2) 18 13 [.ref 33, .int (nI p), ai_un, .int (fn_bi wd), .int (fn_bi wc), .int (nI 0)] [] (hC al kl M3) ∧ (wc = rk ∨ (wc = false ∧ ∀ h k, h < A.1 → k < A.1 → A.2.2.2.1 h = A.2.2.2.1 k)) := by
    cases rk with
    | false => exact ⟨false, by rw [bq_18_9, if_pos (show fn_bi false = 0 from rfl), bq_18_11, bq_18_12]; rfl, Or.inl rfl⟩
    | true =>
      cases b with
      | true => exact ⟨true, by rw [bq_18_9, if_neg (show ¬ fn_bi true = 0 by decide), b1, fb_s, bq_18_10, if_neg (show ¬ fn_bi true = 0 by decide), bq_18_12]; rfl, Or.inl rfl⟩
      | false => exact ⟨false, by rw [bq_18_9, if_neg (show ¬ fn_bi true = 0 by decide), b1, fb_s, bq_18_10, if_pos (show fn_bi false = 0 from rfl), bq_18_11, bq_18_12]; rfl, Or.inr ⟨rfl, fun h k hh hk => (b2 rfl h hh).trans (b2 rfl k hk).symm⟩⟩
  obtain ⟨wc, w1, w2⟩ := hwc
  obtain ⟨M4, s1, s2, s3⟩ := fl_18r (d := d) (al := al) (kl := kl) (wc := wc) (wd := wd) A.2.1 0 M3 ai_un (by omega) hY3 (fun j hj => absurd hj (Nat.not_lt_zero _))
  refine ⟨M4, π, o, wc, ?_, fun a ha => by rw [s2 a (by omega), row3 a ha], q3, fun s hs => by rw [s2 34 (by omega), r2 34 (by decide)]; exact (q5 s hs).1, ?_, fun k hk => by rw [s2 40 (by omega), r2 40 (by decide), q2 40 (by decide) (by decide)]; exact (p3 k hk).2, w2⟩
  · have q1' : ai_run (d + 1) 19 0 [.ref 33, .int (nI p), ai_un, ai_un, ai_un] [] (hC al kl M1) = some (.inl none, hC al kl M2) := by rw [bq_19_0]; exact q1
    have r1' : ai_run (d + 1) 20 0 [.ref 33, ai_un, ai_un] [] (hC al kl M2) = some (.inl none, hC al kl M3) := by rw [bq_20_0]; exact r1
    rw [bq_18_0, fw_33, fb_s, bq_18_1, if_neg (fun q => fn_b0.mp q h9), fi_in (by omega), decide_eq_true z3, cond_true, nI_clamp (by omega), bq_18_3, z5]
    refine Eq.trans p1 ?_
    rw [bq_18_7, q1', fb_n, bq_18_8, r1', fb_n, w1, s1]
  · refine ⟨⟨z1, z2, by rw [s2 4 (by omega), row3 4 (by omega)]; exact z4, by rw [s2 33 (by omega)]; exact hY3.2.1, hy, r3⟩, fun h hh => ⟨?_, ⟨?_, ?_⟩, ?_, ?_⟩, r4, q4, fun s hs => ?_⟩
    · rw [s2 5 (by omega), row3 5 (by omega)]; exact (zh h hh).1
    · rw [s2 41 (by omega), r2 41 (by decide), q2 41 (by decide) (by decide)]; exact (p3 h hh).1
    · show (bif wd then A.2.2.1 h else 0) ≤ 99
      cases wd with
      | true => exact (zh h hh).2.1.2
      | false => exact Nat.zero_le _
    · rw [s2 42 (by omega)]; exact r5 h hh
    · rw [s2 8 (by omega), row3 8 (by omega)]; exact (zh h hh).2.2
    · obtain ⟨j1, j2, j3, v, j4, j5, j6⟩ := s3 s hs
      refine ⟨⟨by rw [s2 35 (by omega), r2 35 (by decide)]; exact (q5 s hs).2, (zr _ (q3.1 s hs)).2.2.2⟩, j1.cg (fun t _ => ?_), j2.cg (fun t _ => ?_), j3.cg (fun t _ => ?_), v, j4, j5, fun t ht hb => ?_⟩
      · unfold fd_r1; rw [decide_eq_true_iff]; exact Iff.rfl
      · unfold fd_r4
        cases wc with
        | true => simp [fd_N]
        | false => simp [fd_N]
      · unfold fd_r5
        cases wc with
        | true => simp [fd_N]
        | false => simp [fd_N]
      · obtain ⟨h1, h2⟩ := (j6 t ht).mp hb
        rw [Bool.and_eq_true, Bool.and_eq_true] at h2
        obtain ⟨⟨h2, h3⟩, h4⟩ := h2
        refine ⟨h1, of_decide_eq_true h2, fun z => ?_, fun h hh => ?_⟩
        · unfold fd_r2 at h3
          rw [z] at h3
          exact of_decide_eq_true h3
        · show (bif wd then A.2.2.1 h else 0) * A.2.2.2.2.2.2.2 (π t) = (bif wd then A.2.2.1 h else 0) * A.2.2.2.2.2.2.2 (π s)
          cases wd with
          | false => rw [cond_false, Nat.zero_mul, Nat.zero_mul]
          | true => rw [show A.2.2.2.2.2.2.2 (π t) = A.2.2.2.2.2.2.2 (π s) from of_decide_eq_true h4]
