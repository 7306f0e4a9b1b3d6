/-! route -/
/-- what else is kept of the class: its room, its mark, and no mark in the row is later -/
def fn_J (c : Nat) (al : Nat × Nat) (kl mk : Nat) (M : Nat → Nat → Int32) : Prop := (al.1 ≤ 55 + c ∧ al.2 ≤ 6195 + 2 * kl ∧ (kl = 0 ∨ ∃ i, i < 10 ∧ kl = fr_sz i)) ∧ mk ≤ c ∧ M 45 10 = nI mk ∧ ∀ j, j < kl → ∃ a, a ≤ mk ∧ fr_bA (M 49 j) = nI a
def fn_Y (miC miM : Nat) (as : List Value) (M MM : Nat → Nat → Int32) : Prop := ∀ (c : Nat) (al am : Nat × Nat) (kl mk : Nat) (N : Nat → Nat → Int64), c < 512 → fn_J c al kl mk M → ∃ (v : Int32) (n np t : Nat) (M1 MM1 : Nat → Nat → Int32) (al1 : Nat × Nat) (kl1 mk1 : Nat) (N1 : Nat → Nat → Int64), ai_run 200 miC 0 (ai_ent (ai_mx miC) (.ref 0 :: as)) [] (hC al kl M) = some (.inl (some (.int v)), hC al1 kl1 M1) ∧ ai_run 200 miM 0 (ai_ent (ai_mx miM) (.ref 0 :: as)) [] (hM am MM N) = some (.inl (some (.int v)), hM am MM1 N1) ∧ fn_J (c + 1) al1 kl1 mk1 M1 ∧ fn_I n np t M1 MM1
theorem fn_J.more {c : Nat} {al : Nat × Nat} {kl mk : Nat} {M : Nat → Nat → Int32} (h : fn_J c al kl mk M) : fn_J (c + 1) al kl mk M := ⟨⟨by have := h.1.1; omega, h.1.2⟩, by have := h.2.1; omega, h.2.2⟩
theorem fn_S.Y {miC miM : Nat} {as : List Value} {M MM : Nat → Nat → Int32} (h : fn_S miC miM as M MM) : fn_Y miC miM as M MM := by
  intro c al am kl mk N hc hJ
  obtain ⟨v, n, np, t, M1, MM1, h1, h2, ⟨h3, h4⟩, h5⟩ := h al am kl N
  refine ⟨v, n, np, t, M1, MM1, al, kl, mk, N, h1, h2, ?_, h5⟩
  have := hJ.more
  refine ⟨this.1, this.2.1, h4.trans this.2.2.1, ?_⟩
  rw [h3]
  exact this.2.2.2
theorem fr_pow {q : Nat} : (2 ^ q).testBit q = true := by rw [Nat.testBit_two_pow]; exact decide_eq_true rfl
theorem fw_196 {am : Nat × Nat} {N : Nat → Nat → Int64} {n np t D q : Nat} {M MM : Nat → Nat → Int32} (h : fn_I n np t M MM) (hD : t + D ≤ 200) (hD2 : D ≤ 21) (hD1 : 1 ≤ D) (hq : q < np) (h9 : MM 0 9 = nI q) {v2 v3 v4 v5 v6 v7 v8 v9 v10 v11 : Value} : ∃ (w e y : Nat → Int32), if fr_R (fr_of MM np t) (D - 1) 0 q (2 ^ q) (fn_sp MM q) = fr_F then ai_run 200 196 6 [.ref 0, .int (nI (t + D - 1)), v2, v3, v4, v5, v6, v7, v8, v9, v10, v11] [] (hM am MM N) = some (.inl (some (.int (-1))), hM am (fn_noM (fn_rw (fn_rw (fn_rw MM 39 y) 38 w) 41 e) 6) N) else ∃ r : Nat → Int32, ai_run 200 196 6 [.ref 0, .int (nI (t + D - 1)), v2, v3, v4, v5, v6, v7, v8, v9, v10, v11] [] (hM am MM N) = some (.inl (some (.int (nI (fr_R (fr_of MM np t) (D - 1) 0 q (2 ^ q) (fn_sp MM q))))), hM am (fn_noM (fn_rw (ai_up (ai_up (fn_rw (fn_rw (fn_rw MM 39 y) 38 w) 41 e) 0 61 (nI t)) 0 62 (nI D)) 40 r) 0) N) ∧ ∀ j, j < D → r j = nI (fr_st (fr_of MM np t) (D - 1) 0 q (2 ^ q) (fn_sp MM q - fn_need MM t) j) := by
  obtain ⟨e1, e2, e3⟩ := h.land.1
  have n3 := h.now.2.2.1
  obtain ⟨y, a1, a2, -⟩ := fl_196a (d := 197) (al := am) (N := N) h hD hD2 D 0 (MM 39) (.int (nI (t + D - 1))) ai_un ai_un ai_un ai_un ai_un ai_un ai_un ai_un (by omega)
  rw [fn_rw_id] at a1
  have hz : fr_Zm np t (fr_of MM np t) (fn_rw MM 39 y) := fr_of_Z h
  have hN : ∀ k, k < D → (fn_rw MM 39 y) 39 k = nI ((fr_of MM np t).2.1 k) := fun k hk => a2 k (Nat.zero_le _) hk
  have h2p : 0 < 2 ^ np := Nat.two_pow_pos np
  have h2n : 2 ^ np ≤ 512 := Nat.pow_le_pow_right (n := 2) (i := np) (j := 9) (by omega) e1
  obtain ⟨w, e, b1, b2⟩ := fl_196s (d := 197) (al := am) (N := N) hz hD hD2 hN (2 ^ np - 1) (MM 38) (MM 41) ai_un ai_un ai_un ai_un ai_un ai_un ai_un ai_un ai_un (by omega) (fun s' h1 h2 => by omega)
  have eid : fn_rw (fn_rw (fn_rw MM 39 y) 38 (MM 38)) 41 (MM 41) = fn_rw MM 39 y := by
    rw [show fn_rw (fn_rw MM 39 y) 38 (MM 38) = fn_rw MM 39 y from fn_rw_id (M := fn_rw MM 39 y) (k := 38)]
    exact fn_rw_id (M := fn_rw MM 39 y) (k := 41)
  rw [eid] at b1
  have h2q : 2 ^ q < 2 ^ np := Nat.pow_lt_pow_right (by omega) hq
  have hsm := fr_R_sm hz.2.2.2.2.2 (D - 1) 0 q (2 ^ q) (fn_sp MM q)
  have hlt := hsm.lt e1
  have hT := b2 (2 ^ q) (Nat.two_pow_pos q) h2q q hq fr_pow 0 (by omega)
  rw [show D - 1 - 0 = D - 1 from rfl, show (9 * 0 + q) * 512 + 2 ^ q = q * 512 + 2 ^ q by omega, show (fr_of MM np t).2.2.1 q = fn_sp MM q from rfl] at hT
  have go : ai_run 200 196 6 [.ref 0, .int (nI (t + D - 1)), v2, v3, v4, v5, v6, v7, v8, v9, v10, v11] [] (hM am MM N) = ai_run 200 196 14 [.ref 0, ai_un, .int (nI D), .int 0, ai_un, ai_un, ai_un, ai_un, ai_un, ai_un, ai_un, ai_un] [] (hM am (fn_rw (fn_rw (fn_rw MM 39 y) 38 w) 41 e) N) := by
    rw [bq_196_6, n3, fi_sub (by omega), nI_1, show t + D - 1 - t + 1 = D by omega, show (0 : Int32) = nI 0 from rfl, a1, bq_196_9, show (fn_rw MM 39 y) 0 5 = nI np from e3]
    have e9 : ∀ p, p < 10 → ((1 : Int32) <<< (nI p &&& 31)) - (1 : Int32) = nI (2 ^ p - 1) := by decide +kernel
    rw [e9 np (by omega), b1]
    rfl
  have ix : nI q * (512 : Int32) + ((1 : Int32) <<< (nI q &&& 31)) = nI (q * 512 + 2 ^ q) := by
    rw [fb_1 q (by omega), show (512 : Int32) = nI 512 from rfl, pk_mul, nI_add]
  refine ⟨w, e, y, ?_⟩
  by_cases hF : fr_R (fr_of MM np t) (D - 1) 0 q (2 ^ q) (fn_sp MM q) = fr_F
  · rw [if_pos hF, go, bq_196_14, show (fn_rw (fn_rw (fn_rw MM 39 y) 38 w) 41 e) 0 9 = nI q from h9, ix, fi_in (by omega), decide_eq_true (by omega), cond_true, nI_clamp (by omega), show (fn_rw (fn_rw (fn_rw MM 39 y) 38 w) 41 e) 38 (q * 512 + 2 ^ q) = nI (fr_R (fr_of MM np t) (D - 1) 0 q (2 ^ q) (fn_sp MM q)) from hT, hF, if_pos (show nI fr_F = 1000000000 from rfl), bq_144_0, fb_s, bq_196_15]
    rfl
  · rw [if_neg hF]
    have hFi : ¬ nI (fr_R (fr_of MM np t) (D - 1) 0 q (2 ^ q) (fn_sp MM q)) = 1000000000 := fj_ne (c := 1000000000) (n := 1000000000) rfl hF (by omega) (by omega)
    -- the first day is eaten
    have hR : (fr_of MM np t).2.2.2.1 q 0 = true ∧ fn_need MM (t + 0) ≤ fn_sp MM q := by
      apply Classical.byContradiction
      intro hc
      exact hF (if_neg hc)
    have eR : fr_R (fr_of MM np t) (D - 1) 0 q (2 ^ q) (fn_sp MM q) = fr_G (fr_of MM np t) (D - 1) 0 q (2 ^ q) (fn_sp MM q - fn_need MM (t + 0)) := if_pos hR
    obtain ⟨r, c1, c2, c3⟩ := fl_196t (al := am) (N := N) (MM := ai_up (ai_up (fn_rw (fn_rw (fn_rw MM 39 y) 38 w) 41 e) 0 61 (nI t)) 0 62 (nI D)) (A := fr_of MM np t) (x3 := nI (fr_R (fr_of MM np t) (D - 1) 0 q (2 ^ q) (fn_sp MM q))) hz hD hD2 hN b2 (D - 1) 0 q (2 ^ q) (fn_need MM (t + 0)) (upd (MM 40) 0 (nI q)) ai_un ai_un ai_un ai_un (by omega) hq h2q fr_pow hR.2 (fun z => hF (eR.trans z))
    refine ⟨r, ?_, fun j hj => ?_⟩
    · rw [go, bq_196_14, show (fn_rw (fn_rw (fn_rw MM 39 y) 38 w) 41 e) 0 9 = nI q from h9, ix, fi_in (by omega), decide_eq_true (by omega), cond_true, nI_clamp (by omega), show (fn_rw (fn_rw (fn_rw MM 39 y) 38 w) 41 e) 38 (q * 512 + 2 ^ q) = nI (fr_R (fr_of MM np t) (D - 1) 0 q (2 ^ q) (fn_sp MM q)) from hT, if_neg hFi, bq_196_16, show (fn_rw (fn_rw (fn_rw MM 39 y) 38 w) 41 e) 0 9 = nI q from h9, show (fn_rw (fn_rw (fn_rw MM 39 y) 38 w) 41 e) 0 8 = nI t from n3, fb_1 q (by omega), show (fn_rw (fn_rw (fn_rw MM 39 y) 38 w) 41 e) 39 0 = nI (fn_need MM (t + 0)) from a2 0 (Nat.le_refl _) (by omega)]
      rw [eR]
      rw [eR] at c1
      refine Eq.trans ?_ c1
      congr 2
    · by_cases hj0 : j = 0
      · subst hj0
        rw [c3 0 (Nat.le_refl _), pk_us]
        cases hm : D - 1 with
        | zero => rfl
        | succ m => exact congrArg nI (if_pos (Nat.le_refl _)).symm
      · exact c2 j (by omega) hj
theorem ft_123 {n np t : Nat} {M MM : Nat → Nat → Int32} (h : fn_I n np t M MM) (x : Int32) : fn_Y 123 196 [.int x] M MM := by
  intro c al am kl mk N hc hJ
  obtain ⟨e1, e2, e3⟩ := h.land.1
  obtain ⟨n1, n2, n3, n4, n5, n6⟩ := h.now
  obtain ⟨⟨j1, j2, j3⟩, j4, j5, j6⟩ := id hJ
  rw [show ai_ent (ai_mx 123) [.ref 0, .int x] = [.ref 0, .int x, ai_un] from rfl, show ai_ent (ai_mx 196) [.ref 0, .int x] = [.ref 0, .int x, ai_un, ai_un, ai_un, ai_un, ai_un, ai_un, ai_un, ai_un, ai_un, ai_un] from rfl]
  have z8 : (ai_up MM 0 0 0) 0 8 = nI t := n3
  rw [bq_196_0, n3, show nI t + 20 = nI (t + 20) from nI_add t 20, show (199 : Int32) = nI 199 from rfl, fw_212 (by omega) (by omega), fb_s, bq_196_1, fw_148, fb_s, bq_196_2, bq_123_0, fw_141, fb_s, bq_123_1, n2, show nI t + 20 = nI (t + 20) from nI_add t 20]
  by_cases hx : nI t ≤ x ∧ x ≤ nI (min (t + 20) 199)
  · obtain ⟨l, l1, l2⟩ := fi_le (n := min (t + 20) 199) (by omega) (Int32.le_trans (nI_pos' (by omega)) hx.1) hx.2
    have l0 : t ≤ l := by
      have := hx.1
      rw [l2] at this
      exact (nI_leI (by omega) (by omega)).mp this
    obtain ⟨D, hD⟩ : ∃ D, D = l - t + 1 := ⟨_, rfl⟩
    have elD : l = t + D - 1 := by omega
    have hD21 : D ≤ 21 := by omega
    have hday : 0 ≤ x ∧ x < 200 := by rw [l2]; exact ⟨nI_pos' (by omega), fj_gt (c := 200) (n := 200) rfl (by omega) (by omega)⟩
    rw [if_neg (fun z => fn_b0.mp z hday), l2, if_neg (nI_nlt l0 (by omega)), if_pos (nI_le (by omega) (by omega)), ← l2, if_neg (fun z => fn_b0.mp z hx), bq_123_4, fw_33, fb_s, bq_123_5, e2, bq_196_4, show (ai_up MM 0 0 0) 0 9 = M 0 13 from n5.symm]
    rcases n6 with ⟨g1, g2⟩ | ⟨q, g1, g2⟩
    · rw [g2, if_pos (fn_b0.mpr (fun z => absurd z.1 (by decide))), if_pos rfl, bq_136_0, fb_s, bq_123_6, bq_144_0, fb_s, bq_196_5]
      exact ⟨_, n, np, t, _, _, al, kl, mk, N, rfl, rfl, hJ.more, h.no 6⟩
    · have gq : 0 ≤ nI q ∧ nI q < nI np := ⟨nI_pos' (by omega), nI_lt g1 (by omega)⟩
      have hkl : kl ≤ 48384 := by
        rcases j3 with z | ⟨i, i1, i2⟩
        · omega
        · have : ∀ i, i < 10 → fr_sz i ≤ 48384 := by decide +kernel
          rw [i2]; exact this i i1
      -- the class
      obtain ⟨M1, hM1⟩ : ∃ M1, M1 = ai_up (ai_up (ai_up M 45 3 (nI t)) 45 4 (nI (D - 1))) 45 5 (nI q) := ⟨_, rfl⟩
      have hI1 : fn_I n np t M1 MM := by subst hM1; exact h
      obtain ⟨M2, a1, a2, a3, a4, a5, a6⟩ := fw_49 (d := 194) (al := al) (kl := kl) hI1 (D := D) (by omega) (by omega) (by omega) (by subst hM1; rfl) (by subst hM1; rfl) (v1 := ai_un) (v2 := ai_un)
      have hI2 := fr_ag.I hI1 a2 a3
      have r45 : M2 45 = M1 45 := a2 45 (by decide)
      have r303 := fw_303 (al := al) (kl := kl) (M := M2) e1 (show 1 ≤ np by omega) (by omega) hI2.land.1.2.1
      -- the row that is big enough
      obtain ⟨al3, kl3, M3, s1, s2, s3, s4, s5, s6, s7⟩ : ∃ (al3 : Nat × Nat) (kl3 : Nat) (g3 : Nat → Int32), (if kl < fr_sz np then hC (al.1 + 1, al.2 + fr_sz np) (fr_sz np) (fn_rw M2 49 (fun _ => 0)) else hC al kl M2) = hC al3 kl3 (fn_rw M2 49 g3) ∧ fr_sz np ≤ kl3 ∧ kl3 ≤ 48384 ∧ al3.1 ≤ 55 + (c + 1) ∧ al3.2 ≤ 6195 + 2 * kl3 ∧ (kl3 = 0 ∨ ∃ i, i < 10 ∧ kl3 = fr_sz i) ∧ ∀ j, j < kl3 → ∃ a, a ≤ mk ∧ fr_bA (g3 j) = nI a := by
        by_cases cs : kl < fr_sz np
        · refine ⟨(al.1 + 1, al.2 + fr_sz np), fr_sz np, fun _ => 0, by rw [if_pos cs], Nat.le_refl _, (fb_sz np (by omega) (by omega)).2, by show al.1 + 1 ≤ _; omega, ?_, Or.inr ⟨np, by omega, rfl⟩, fun j _ => ⟨0, Nat.zero_le _, show fr_bA 0 = nI 0 by decide⟩⟩
          show al.2 + fr_sz np ≤ _
          rcases j3 with z | ⟨i, i1, i2⟩
          · omega
          · have := fb_s2 i i1 np (by omega) (by omega)
            omega
        · refine ⟨al, kl, M2 49, by rw [if_neg cs, fn_rw_id], by omega, hkl, by omega, j2, j3, ?_⟩
          rw [a4]
          subst hM1
          exact j6
      have hst : fr_Kc np t D q (mk + 1) kl3 (fr_of MM np t) (ai_up M2 45 10 (nI (mk + 1))) := by
        refine ⟨⟨e1, g1, by omega, by omega, by omega, by omega, rfl, s2, by omega⟩, ⟨?_, ?_, rfl, hI2.land.1.2.1⟩, fun k hk p' q' hp' hq' => ?_, a6, fun p' q' k => fn_hw_le MM p' q' (t + k)⟩
        · show upd (M2 45) 10 (nI (mk + 1)) 4 = _
          rw [pk_un (by omega), r45]; subst hM1; rfl
        · show upd (M2 45) 10 (nI (mk + 1)) 5 = _
          rw [pk_un (by omega), r45]; subst hM1; rfl
        · obtain ⟨w, y, w1, y1, w2, w3, y2⟩ := fw_w hI2 (p := p') (q := q') hp' hq' (show t + k < 200 by omega)
          refine ⟨w, y, w1, y1, w2, (a5 k hk).2.trans y2, ?_⟩
          show fn_hw MM p' q' (t + k) = _
          unfold fn_hw
          rw [w3, y2, nI_clamp (by omega), nI_clamp (by omega)]
      have hmem : fr_M np D q (mk + 1) kl3 (fr_of MM np t) M3 := by
        refine ⟨fun j hj => ?_, fun i p' s hi hp' hs hb hA => ?_⟩
        · obtain ⟨a, x1, x2⟩ := s7 j hj
          exact ⟨a, by omega, x2⟩
        · have hsl := fr_sl_lt (i := i) (show np < 10 by omega) g1 (by omega) hp' hs
          obtain ⟨a, x1, x2⟩ := s7 _ (Nat.lt_of_lt_of_le hsl s2)
          rw [x2] at hA
          have := (nI_eq (by omega) (by omega)).mp hA
          omega
      have h2q : 2 ^ q < 2 ^ np := Nat.pow_lt_pow_right (by omega) g1
      have hL := fr_all (al := al3) hst 21
      obtain ⟨g4, b1, b2, -⟩ := fw_52 (d := 109) (n := 21) (v5 := ai_un) (v6 := ai_un) (v7 := ai_un) hst hL g1 h2q fr_pow (b := 0) (j := 0) (by omega) (Nat.zero_le _) (by omega) M3 hmem
      have er : fr_R (fr_of MM np t) (D - 1) 0 q (2 ^ q) (fn_sp MM q) = if fr_x (fr_of MM np t) (D - 0) 0 q ((fr_of MM np t).2.2.1 q) = D then 0 else fr_ms (fun j => fr_E (fr_of MM np t) (D - 1 - j) j q (2 ^ q)) 0 (fr_x (fr_of MM np t) (D - 0) 0 q ((fr_of MM np t).2.2.1 q) - 0) := by
        rw [fr_row, show D - 1 + 1 = D - 0 by omega, show 0 + (D - 1) + 1 = D by omega, show 0 + (D - 1) = D - 1 by omega]
        rfl
      rw [← er] at b1
      have hup : ∀ (g0 : Nat → Int32) (v : Int32), ai_up (fn_rw M2 49 g0) 45 10 v = fn_rw (ai_up M2 45 10 v) 49 g0 := fun g0 v => by
        funext a
        unfold ai_up fn_rw
        by_cases h1 : a = 45
        · subst h1; rfl
        · simp [h1]
      have m2 : M2 45 10 = nI mk := by rw [r45]; subst hM1; exact j5
      have c48 : ai_run 199 48 0 [.ref 45, .int (nI t), .int (nI l), .int (nI q), ai_un] [] (hC al kl M) = ai_run 199 48 6 [.ref 45, ai_un, ai_un, ai_un, ai_un] [.int (nI (fr_cp (fr_R (fr_of MM np t) (D - 1) 0 q (2 ^ q) (fn_sp MM q))))] (hC al3 kl3 (fn_rw (ai_up M2 45 10 (nI (mk + 1))) 49 g4)) := by
        have gq' : 0 ≤ nI q ∧ nI q < M 9 0 := by rw [e2]; exact gq
        rw [bq_48_0, fw_33, fb_s, bq_48_1, if_neg (fun z => fn_b0.mp z gq'), if_neg (nI_nlt l0 (by omega)), fi_sub l0, if_pos (fj_gt (c := 21) (n := 21) rfl (by omega) (by omega)), bq_48_3, fi_sub l0, show l - t = D - 1 by omega, ← hM1, a1, fb_n, bq_48_4, r303, s1, fb_n, bq_48_5, show (fn_rw M2 49 M3) 45 5 = nI q from by
          show M2 45 5 = nI q
          rw [r45]; subst hM1; rfl, show (fn_rw M2 49 M3) 45 10 = nI mk from m2, fb_mk mk (by omega), fb_1 q (by omega), hup, show (0 : Int32) = nI 0 from rfl, b1, fb_s]
      have hsm := fr_R_sm hst.2.2.2.2 (D - 1) 0 q (2 ^ q) (fn_sp MM q)
      have hcc : fr_c (fr_of MM np t).1 (2 ^ q) ≤ np := fr_c_le np
      obtain ⟨w, e, y, hM⟩ := fw_196 (am := am) (N := N) h.z (D := D) (by omega) (by omega) (by omega) g1 (n5.symm.trans g2) (v2 := ai_un) (v3 := ai_un) (v4 := ai_un) (v5 := ai_un) (v6 := ai_un) (v7 := ai_un) (v8 := ai_un) (v9 := ai_un) (v10 := ai_un) (v11 := ai_un)
      have eof : fr_of (ai_up MM 0 0 0) np t = fr_of MM np t := by
        unfold fr_of
        rw [show (fun k => fn_need (ai_up MM 0 0 0) (t + k)) = fun k => fn_need MM (t + k) from funext (fun k => fn_need_z MM (t + k))]
        rfl
      rw [eof, show fn_sp (ai_up MM 0 0 0) q = fn_sp MM q from rfl, fn_need_z, ← elD] at hM
      rw [g2, if_neg (fun z => fn_b0.mp z gq), if_neg (fi_m1 (by omega)), bq_123_7, n2, g2, l2, c48, bq_48_6]
      have hJ3 : ∀ (M' : Nat → Nat → Int32), M' 45 10 = nI (mk + 1) → (∀ j, j < kl3 → ∃ a, a ≤ mk + 1 ∧ fr_bA (M' 49 j) = nI a) → fn_J (c + 1) al3 kl3 (mk + 1) M' := fun M' z1 z2 => ⟨⟨s4, s5, s6⟩, by omega, z1, z2⟩
      have hI4 : fn_I n np t (fn_rw (ai_up M2 45 10 (nI (mk + 1))) 49 g4) MM := hI2
      by_cases hF : fr_R (fr_of MM np t) (D - 1) 0 q (2 ^ q) (fn_sp MM q) = fr_F
      · rw [if_pos hF] at hM
        rw [hF, show fr_cp fr_F = 255 from rfl, if_neg (show ¬ nI 255 < 255 by decide), bq_48_8, fb_s, bq_123_8, if_pos rfl, bq_136_0, fb_s, bq_123_9, hM]
        exact ⟨_, n, np, t, _, _, al3, kl3, mk + 1, N, rfl, rfl, hJ3 _ rfl b2.1, hI4.no 6⟩
      · rw [if_neg hF] at hM
        obtain ⟨r, hM1', hM2'⟩ := hM
        have hfin := hsm.resolve_left hF
        have h144 : fr_R (fr_of MM np t) (D - 1) 0 q (2 ^ q) (fn_sp MM q) ≤ 144 := by omega
        have ecp : fr_cp (fr_R (fr_of MM np t) (D - 1) 0 q (2 ^ q) (fn_sp MM q)) = fr_R (fr_of MM np t) (D - 1) 0 q (2 ^ q) (fn_sp MM q) := by unfold fr_cp; omega
        have hR : (fr_of MM np t).2.2.2.1 q 0 = true ∧ (fr_of MM np t).2.1 0 ≤ fn_sp MM q := by
          apply Classical.byContradiction
          intro hc
          exact hF (if_neg hc)
        have eR : fr_R (fr_of MM np t) (D - 1) 0 q (2 ^ q) (fn_sp MM q) = fr_G (fr_of MM np t) (D - 1) 0 q (2 ^ q) (fn_sp MM q - fn_need MM t) := if_pos hR
        have hKt : fr_Kc np t D q (mk + 1) kl3 (fr_of MM np t) (ai_up (ai_up (ai_up M2 45 10 (nI (mk + 1))) 45 12 (nI t)) 45 13 (nI t + nI (D - 1))) := hst
        obtain ⟨r', g5, d1, d2, d3, d4⟩ := fl_57 (al := al3) hKt (D - 1) 0 q (2 ^ q) 0 (fn_sp MM q - fn_need MM t) (upd (M2 50) 0 (nI q)) g4 (.int (nI (fr_R (fr_of MM np t) (D - 1) 0 q (2 ^ q) (fn_sp MM q)))) ai_un (by omega) g1 h2q fr_pow fr_pow (Nat.le_refl _) (by
          rw [show D - 0 = D - (0 + 1) + 1 by omega]
          exact if_pos hR) (fun z => hF (eR.trans z)) b2
        rw [← eR] at d1
        have m3 : (fn_rw (ai_up M2 45 10 (nI (mk + 1))) 49 g4) 45 3 = nI t := by
          show upd (M2 45) 10 (nI (mk + 1)) 3 = _
          rw [pk_un (by omega), r45]; subst hM1; rfl
        have m4 : (fn_rw (ai_up M2 45 10 (nI (mk + 1))) 49 g4) 45 4 = nI (D - 1) := hst.2.1.1
        have m5 : (fn_rw (ai_up M2 45 10 (nI (mk + 1))) 49 g4) 45 5 = nI q := hst.2.1.2.1
        have ew : ai_up (ai_up (ai_up (fn_rw (ai_up M2 45 10 (nI (mk + 1))) 49 g4) 45 12 (nI t)) 45 13 (nI t + nI (D - 1))) 50 0 (nI q) = fn_rw (fn_rw (ai_up (ai_up (ai_up M2 45 10 (nI (mk + 1))) 45 12 (nI t)) 45 13 (nI t + nI (D - 1))) 50 (upd (M2 50) 0 (nI q))) 49 g4 := by
          funext a
          by_cases h1 : a = 45
          · subst h1; rfl
          · by_cases h2 : a = 49
            · subst h2; rfl
            · by_cases h3 : a = 50
              · subst h3; rfl
              · simp [ai_up, fn_rw, h1, h2, h3]
        have c57 : ai_run 199 57 0 [.ref 45, .int (nI (fr_R (fr_of MM np t) (D - 1) 0 q (2 ^ q) (fn_sp MM q))), ai_un, ai_un, ai_un, ai_un, ai_un, ai_un] [] (hC al3 kl3 (fn_rw (ai_up M2 45 10 (nI (mk + 1))) 49 g4)) = some (.inl none, hC al3 kl3 (fn_rw (fn_rw (ai_up (ai_up (ai_up M2 45 10 (nI (mk + 1))) 45 12 (nI t)) 45 13 (nI t + nI (D - 1))) 50 r') 49 g5)) := by
          rw [bq_57_0, m3, m4, m5, ew, fb_1 q (by omega)]
          exact d1
        rw [ecp, if_pos (fj_gt (c := 255) (n := 255) rfl (by omega) (by omega)), bq_48_7, bq_48_8, fb_s, bq_123_8, if_neg (fi_m1 (by omega)), bq_123_10, c57, fb_n, bq_123_11, bq_137_0, fb_s, bq_123_12, hM1']
        refine ⟨_, n, np, t, _, _, al3, kl3, mk + 1, N, rfl, rfl, hJ3 _ rfl d2.1, ⟨hI4.court, hI4.land, hI4.cal, ⟨n1, hI4.now.2.1, n3, rfl, hI4.now.2.2.2.2⟩, hI4.past, hI4.ldg, ⟨t, D, n1, hD21, ?_, ?_, ?_, ?_, ?_⟩, hI4.plz, hI4.tap, hI4.que, hI4.flt, hI4.rul⟩⟩
        · show (ai_up (ai_up (ai_up M2 45 10 (nI (mk + 1))) 45 12 (nI t)) 45 13 (nI t + nI (D - 1))) 45 12 = nI t
          rw [fu_ne (by decide), fu_at]
        · show (ai_up (ai_up (ai_up M2 45 10 (nI (mk + 1))) 45 12 (nI t)) 45 13 (nI t + nI (D - 1))) 45 13 = nI (t + D) - 1
          rw [fu_at]
          rw [nI_add, show t + D = t + (D - 1) + 1 by omega, nI_pred]
        · rfl
        · rfl
        · intro j hj
          show r' j = r j
          rw [hM2' j hj]
          by_cases hj0 : j = 0
          · subst hj0
            rw [d4 0 (Nat.le_refl _), pk_us]
            cases hm : D - 1 with
            | zero => rfl
            | succ m => exact congrArg nI (if_pos (Nat.le_refl _)).symm
          · exact d3 j (by omega) hj
  · have hcl : ∃ v2 : Value, ai_run 200 123 2 [.ref 0, .int x, ai_un] [] (hC al kl M) = some (.inl (some (.int (-1))), hC al kl (fn_noC M 2)) := ⟨ai_un, by rw [bq_123_2, bq_136_0, fb_s, bq_123_3]; rfl⟩
    obtain ⟨-, hcl⟩ := hcl
    have hC : (if fn_b (0 ≤ x ∧ x < 200) = 0 then ai_run 200 123 2 [.ref 0, .int x, ai_un] [] (hC al kl M) else if x < nI t then ai_run 200 123 2 [.ref 0, .int x, ai_un] [] (hC al kl M) else if x ≤ nI (t + 20) then ai_run 200 123 4 [.ref 0, .int x, ai_un] [] (hC al kl M) else ai_run 200 123 2 [.ref 0, .int x, ai_un] [] (hC al kl M)) = some (.inl (some (.int (-1))), hC al kl (fn_noC M 2)) := by
      by_cases h1 : 0 ≤ x ∧ x < 200
      · rw [if_neg (fun z => fn_b0.mp z h1)]
        by_cases h2 : x < nI t
        · rw [if_pos h2, hcl]
        · rw [if_neg h2]
          by_cases h3 : x ≤ nI (t + 20)
          · exfalso
            apply hx
            obtain ⟨p, p1, p2⟩ := fi_of (n := 200) (by omega) h1
            refine ⟨Int32.not_lt.mp h2, ?_⟩
            rw [p2] at h3 ⊢
            have := (nI_leI (by omega) (by omega)).mp h3
            exact nI_le (by omega) (by omega)
          · rw [if_neg h3, hcl]
      · rw [if_pos (fn_b0.mpr h1), hcl]
    rw [if_pos (fn_b0.mpr hx), bq_144_0, fb_s, bq_196_3]
    exact ⟨_, n, np, t, _, _, al, kl, mk, N, hC, rfl, hJ.more, h.no 2⟩
