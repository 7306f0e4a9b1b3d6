/-! lodge -/
theorem fd_pt0 {A : fd_A} {c : Nat → Nat} : fd_pt A (2 ^ A.1 - 1) c = 0 := by
  have : fd_pt A (2 ^ A.1 - 1) c = fd_su (fun _ => 0) A.1 := fd_su_cg A.1 (fun i hi => by rw [Nat.testBit_two_pow_sub_one, decide_eq_true hi, if_pos rfl])
  rw [this]
  have h : ∀ n, fd_su (fun _ => 0) n = 0 := fun n => by
    induction n with
    | zero => rfl
    | succ n ih => exact ih
  exact h _
theorem fd_S_b {A : fd_A} {wc : Bool} {o c : Nat → Nat} {M : Nat → Nat → Int32} (hz : fd_T A wc o M) (hc : ∀ h, h < A.1 → c h < A.2.1) : fd_S A c ≤ 78408 :=
  Nat.le_trans (fd_su_b (B := 9801) A.1 (fun i hi => hz.W hi (hc i hi))) (Nat.mul_le_mul_right 9801 hz.1.1)
/-- what the class holds once the least sum is found -/
def fd_F (A : fd_A) (π o : Nat → Nat) (wc : Bool) (least : Nat) (b : Nat → Nat) (M : Nat → Nat → Int32) : Prop := fd_pm A.2.1 π ∧ (∀ s, s < A.2.1 → M 34 s = nI (π s)) ∧ fd_T (fd_N A π true) wc o M ∧ (∀ k, k < A.1 → fd_bs (M 40 k) (fun t => t < A.2.1)) ∧ fd_wk A true wc ∧ least ≤ 78408 ∧ fd_Vs (fd_N A π true) wc b ∧ fd_S (fd_N A π true) b = least ∧ (∀ k, k < A.1 → M 44 k = nI (b k)) ∧ ∀ a, fd_Vs (fd_N A π true) wc a → least ≤ fd_S (fd_N A π true) a
theorem fw_15 {d : Nat} {al : Nat × Nat} {kl p : Nat} {A : fd_A} {M : Nat → Nat → Int32} (hz : fd_Zc A p M) (hy : fd_By A) (h9 : 0 ≤ nI p ∧ nI p < M 9 0) : ((¬ (A.1 ≤ A.2.1 ∧ fd_ho (M 7) 0 A.1 0 ≤ M 12 p ∧ ∃ a, fd_V A true a)) ∧ ∃ M' : Nat → Nat → Int32, ai_run (d + A.1 + 3 + 2) 15 0 [.ref 33, .int (nI p)] [] (hC al kl M) = some (.inl (some (.int (-1))), hC al kl M') ∧ ∀ a, a < 33 ∨ 44 < a → M' a = M a) ∨ ((A.1 ≤ A.2.1 ∧ fd_ho (M 7) 0 A.1 0 ≤ M 12 p ∧ ∃ a, fd_V A true a) ∧ ∃ (M' : Nat → Nat → Int32) (π o : Nat → Nat) (wc : Bool) (least : Nat) (b : Nat → Nat), ai_run (d + A.1 + 3 + 2) 15 0 [.ref 33, .int (nI p)] [] (hC al kl M) = some (.inl (some (.int (nI least))), hC al kl M') ∧ (∀ a, a < 33 ∨ 44 < a → M' a = M a) ∧ fd_F A π o wc least b M') := by
  obtain ⟨⟨z1, z2, z3, z4, z5⟩, zh, zr⟩ := id hz
  have i9 : ai_in (nI p) 9 = true := by rw [fi_in (by omega)]; exact decide_eq_true z3
  have r3 : ∀ (M : Nat → Nat → Int32) (v0 v1 : Value), ai_run (d + A.1 + 3 + 2) 15 3 [v0, v1] [] (hC al kl M) = some (.inl (some (.int (-1))), hC al kl M) := fun M v0 v1 => bq_15_3
  rw [show d + A.1 + 3 + 2 = d + A.1 + 3 + 1 + 1 from rfl] at r3 ⊢
  rw [bq_15_0, fw_33, fb_s, bq_15_1, if_neg (fun q => fn_b0.mp q h9), i9, cond_true, nI_clamp (by omega), z4, z5]
  by_cases c1 : A.1 ≤ A.2.1
  · rw [if_neg (nI_nlt c1 (by omega)), fw_11 z1 z4, fb_s, bq_15_2, i9, cond_true, nI_clamp (by omega)]
    by_cases c2 : fd_ho (M 7) 0 A.1 0 ≤ M 12 p
    · obtain ⟨M1, b1, p1, p2, p3⟩ := fw_16 (d := d) (al := al) (kl := kl) (rk := true) hz hy h9
      have p1' : ai_run (d + A.1 + 3 + 1) 16 0 [.ref 33, .int (nI p), .int 1] [] (hC al kl M) = some (.inl (some (.int (fn_bi b1))), hC al kl M1) := p1
      rw [if_pos c2, bq_15_4, p1', fb_s, bq_15_5]
      cases b1 with
      | false =>
        rw [if_pos (show fn_bi false = 0 from rfl)]
        exact Or.inl ⟨fun z => absurd (p3.mpr z.2.2) (by decide), M1, rfl, p2⟩
      | true =>
        have hex := p3.mp rfl
        rw [if_neg (show ¬ fn_bi true = 0 by decide), bq_15_6]
        have w18 : ∃ (M' : Nat → Nat → Int32) (π o : Nat → Nat) (wc : Bool), ai_run (d + A.1 + 3 + 1) 18 0 [.ref 33, .int (nI p), .int (fn_bi true), .int (fn_bi true), ai_un, ai_un] [] (hC al kl M1) = some (.inl none, hC al kl M') ∧ (∀ a, a < 33 ∨ 44 < a → M' a = M1 a) ∧ fd_pm A.2.1 π ∧ (∀ s, s < A.2.1 → M' 34 s = nI (π s)) ∧ fd_T (fd_N A π true) wc o M' ∧ (∀ k, k < A.1 → fd_bs (M' 40 k) (fun t => t < A.2.1)) ∧ (wc = true ∨ (wc = false ∧ ∀ h k, h < A.1 → k < A.1 → A.2.2.2.1 h = A.2.2.2.1 k)) := fw_18 (d := d + A.1 + 2) (hz.lo p2) hy (by rw [p2 9 (by omega)]; exact h9)
        obtain ⟨M2, π, o, wc, q1, q2, q3, q4, q5, q6, q7⟩ := w18
        have q1' : ai_run (d + A.1 + 3 + 1) 18 0 [.ref 33, .int (nI p), .int 1, .int 1, ai_un, ai_un] [] (hC al kl M1) = some (.inl none, hC al kl M2) := q1
        obtain ⟨M3, least, w1, w2, w3, w4, w5, w6⟩ := fw_23 (d := d + 1) (al := al) (kl := kl) (lim := 1000000) (en := 0) (A := fd_N A π true) (M := ai_up (ai_up M2 33 14 1000000) 33 15 0) q5 rfl (by omega) rfl (by omega) q6
        have w1' : ai_run (d + A.1 + 3 + 1) 23 0 [.ref 33, .int 0, .int (nI (2 ^ A.1 - 1)), .int 0, ai_un, ai_un, ai_un, ai_un] [] (hC al kl (ai_up (ai_up M2 33 14 1000000) 33 15 0)) = some (.inl none, hC al kl M3) := by
          rw [show d + A.1 + 3 + 1 = d + 1 + A.1 + 3 by omega]; exact w1
        have e4 : (ai_up (ai_up M2 33 14 1000000) 33 15 0) 4 0 = nI A.1 := q5.1.2.2.1
        rw [q1', fb_n, bq_15_7, fw_17 (n := A.1) z1 e4, fb_s, bq_15_8, w1', fb_n, bq_15_9, w3]
        have hmin : ∀ a, fd_Vs (fd_N A π true) wc a → least ≤ fd_S (fd_N A π true) a := fun a ha => by have := w6 a ha; omega
        -- there is one below the limit
        obtain ⟨a, ha⟩ := hex
        have ha' := (fd_Vs_iff hy).mpr ha
        obtain ⟨c, hc⟩ := fd_lift q3 (fun h hh => (ha' h hh).1)
        have hcV : fd_Vs (fd_N A π true) wc c := (fd_Vs_N q3 q7 (fun h hh => (hc h hh).1) (fun h hh => (hc h hh).2)).mpr ha'
        have hcS := hmin c hcV
        have hcb := fd_S_b q5 (c := c) (fun h hh => (hcV h hh).1)
        rcases w5 with ⟨g, -⟩ | ⟨-, b, g2, g3, g4⟩
        · exact absurd hcS (by omega)
        · refine Or.inr ⟨⟨c1, c2, a, ha⟩, M3, π, o, wc, least, b, rfl, fun a ha => ?_, q3, fun s hs => ?_, ?_, fun k hk => ?_, q7, by omega, g2, g3, g4, hmin⟩
          · rw [w2.1 a (by omega) (by omega) (by omega) (by omega), fu_row (by omega), fu_row (by omega), q2 a ha, p2 a ha]
          · rw [w2.1 34 (by decide) (by decide) (by decide) (by decide)]; exact q4 s hs
          · exact fd_T.K (M := ai_up (ai_up M2 33 14 1000000) 33 15 0) q5 w2
          · rw [w4 k (by omega)]; exact q6 k hk
    · rw [if_neg c2, r3]
      exact Or.inl ⟨fun z => c2 z.2.1, M, rfl, fun _ _ => rfl⟩
  · rw [if_pos (nI_lt (by omega) (by omega)), r3]
    exact Or.inl ⟨fun z => c1 z.1, M, rfl, fun _ _ => rfl⟩
theorem fw_29 {D : Nat} {al : Nat × Nat} {kl least : Nat} {A : fd_A} {π o b : Nat → Nat} {wc : Bool} {M : Nat → Nat → Int32} (hD : A.1 + 3 ≤ D) (hF : fd_F A π o wc least b M) {v2 v3 v4 : Value} : ∃ (M' : Nat → Nat → Int32) (b' : Nat → Nat), ai_run (D + 2) 29 0 [.ref 33, .int (nI least), v2, v3, v4] [] (hC al kl M) = some (.inl none, hC al kl M') ∧ fd_L M M' ∧ fd_Vs (fd_N A π true) wc b' ∧ fd_S (fd_N A π true) b' = least ∧ (∀ k, k < A.1 → M' 44 k = nI (b' k)) ∧ ∀ j, j < A.1 → ∀ a, fd_Vs (fd_N A π true) wc a → fd_S (fd_N A π true) a = least → (∀ i, i < j → a i = b' i) → π (b' j) ≤ π (a j) := by
  obtain ⟨f1, f2, f3, f4, f5, f6, f7, f8, f9, f10⟩ := hF
  have hT : ∀ k, (2 ^ A.1 - 1).testBit k = decide (k < A.1) := fun k => Nat.testBit_two_pow_sub_one _ _
  have hno : ∀ k, k < A.1 → ¬ (2 ^ A.1 - 1).testBit k = false := fun k hk z => by rw [hT, decide_eq_true hk] at z; exact absurd z (by decide)
  have hpt : fd_pt (fd_N A π true) (2 ^ A.1 - 1) (fun _ => 0) = 0 := fd_pt0 (A := fd_N A π true)
  obtain ⟨M', b', p1, p2⟩ := fl_29 (D := D) (al := al) (kl := kl) (A := fd_N A π true) (wc := wc) (o := o) (π := π) (least := least) hD (by omega) f10 f1 A.1 0 (2 ^ A.1 - 1) M (fun _ => 0) b (Nat.zero_add _) ⟨f3, fun k => (hT k).trans (decide_eq_decide.mpr ⟨fun z => ⟨Nat.zero_le _, z⟩, fun z => z.2⟩), fun h hh hb => absurd hb (hno h hh), fun h hh hb => absurd hb (hno h hh), fun k hk _ => by
    rw [show 8 * 0 + k = k by omega]
    exact (f4 k hk).cg (fun t _ => ⟨fun z => ⟨z, fun h hh hb => absurd hb (hno h hh)⟩, fun z => z.1⟩), ⟨f7, fun h hh hb => absurd hb (hno h hh)⟩, f8, f9⟩ f2 (fun j hj => absurd hj (Nat.not_lt_zero _))
  rw [hpt] at p1
  refine ⟨M', b', ?_, p2⟩
  rw [bq_29_0, fw_17 (n := A.1) f3.1.1 f3.1.2.2.1, fb_s, bq_29_1]
  exact p1
theorem fl_120 {d : Nat} {al : Nat × Nat} {kl n : Nat} {b π : Nat → Nat} {M : Nat → Nat → Int32} {x2 : Int32} (hn : n ≤ 8) (h4 : M 4 0 = nI n) (h44 : ∀ k, k < n → M 44 k = nI (b k) ∧ b k < 10) (h34 : ∀ k, k < n → M 34 (b k) = nI (π (b k))) : ∀ (m k : Nat) (g : Nat → Int32) (v1 : Value), k + m = 8 → (∀ j, j < k → g j = if j < n then nI (π (b j)) else -1) → ∃ g' : Nat → Int32, ai_run (d + 2) 120 8 [.ref 0, v1, .int x2, .int (nI k)] [] (hC al kl (fn_rw M 1 g)) = ai_run (d + 2) 120 10 [.ref 0, ai_un, .int x2, .int (nI 8)] [] (hC al kl (fn_rw M 1 g')) ∧ ∀ j, j < 8 → g' j = if j < n then nI (π (b j)) else -1
  | 0, k, g, v1, hk, hg => by
    have e : k = 8 := by omega
    subst e
    exact ⟨g, by rw [bq_120_8, if_pos (show (8 : Int32) ≤ nI 8 by decide)], hg⟩
  | m + 1, k, g, v1, hk, hg => by
    obtain ⟨g', p1, p2⟩ := fl_120 (d := d) (al := al) (kl := kl) (M := M) (x2 := x2) hn h4 h44 h34 m (k + 1) (upd g k (if k < n then nI (π (b k)) else -1)) ai_un (by omega) (fun j hj => by
      by_cases e : j = k
      · rw [e, pk_us]
      · rw [pk_un e]; exact hg j (by omega))
    have i8 : ai_in (nI k) 8 = true := by rw [fi_in (by omega)]; exact decide_eq_true (by omega)
    have w13 : ai_run (d + 1) 13 0 [.ref 33, .int (nI k)] [] (hC al kl (fn_rw M 1 g)) = some (.inl (some (.int (if k < n then nI (π (b k)) else -1))), hC al kl (fn_rw M 1 g)) := by
      rw [bq_13_0, fw_7, fb_s, bq_13_1, show (fn_rw M 1 g) 4 0 = nI n from h4]
      by_cases c : k < n
      · have i10 : ai_in (nI (b k)) 10 = true := by rw [fi_in (by have := (h44 k c).2; omega)]; exact decide_eq_true (h44 k c).2
        rw [if_neg (fun z => fn_b0.mp z ⟨nI_le (a := 0) (Nat.zero_le _) (by omega), nI_lt c (by omega)⟩), i8, cond_true, nI_clamp (n := k) (by omega), show (fn_rw M 1 g) 44 k = nI (b k) from (h44 k c).1, i10, cond_true, nI_clamp (n := b k) (by have := (h44 k c).2; omega), show (fn_rw M 1 g) 34 (b k) = nI (π (b k)) from h34 k c, bq_13_3, if_pos c]
      · rw [if_pos (fn_b0.mpr (fun z => absurd z.2 (nI_nlt (by omega) (by omega)))), bq_13_2, bq_13_3, if_neg c]
    refine ⟨g', ?_, p2⟩
    rw [bq_120_8, if_neg (show ¬ (8 : Int32) ≤ nI k from nI_ge (a := k) (b := 8) (by omega) (by omega)), w13, fb_s, bq_120_9, i8, cond_true, nI_clamp (n := k) (by omega), fn_rw_up, nI_1, p1]
