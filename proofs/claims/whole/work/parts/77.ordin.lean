/-! ordinance -/
theorem fn_I.par {n np t : Nat} {M MM M' MM' : Nat → Nat → Int32} (h : fn_I n np t M MM) (hc : ∀ a, a ∉ [0, 23, 24, 25, 26, 28, 30, 31, 32] → M' a = M a) (hm : ∀ a, a ∉ [0, 22, 24, 25, 26, 27, 28, 29, 30, 31, 32, 33] → MM' a = MM a) (c0 : ∀ j, j ≠ 14 → M' 0 j = M 0 j) (m0 : ∀ j, j ∈ [4, 5, 6, 7, 8, 9, 57, 61, 62] → MM' 0 j = MM 0 j) (hn : (MM' 0 1, MM' 0 2) = (M' 0 14, if M' 0 14 = 4 then fn_pl (M' 32 3) (M' 28 3) (M' 31) else -1)) (ht : fn_tap (M' 28 0) (M' 29) (MM' 0 33) (MM' 23)) (hf : fn_flt (M' 32 2) (M' 28 3) (MM' 0 3)) (hr : fn_rul (M' 23 2) (M' 24) (M' 25) (M' 26) (M' 27 6) (MM' 0 41) (MM' 24) (MM' 25) (MM' 26) (MM' 27) (MM' 28) (MM' 29) (MM' 30) (MM' 31) (MM' 32) (MM' 33)) : fn_I n np t M' MM' := by
  obtain ⟨n1, n2, n3, n4, n5, n6⟩ := h.now
  refine ⟨?_, ?_, ?_, ⟨n1, ?_, ?_, hn, ?_, ?_⟩, ?_, ?_, ?_, ?_, ht, ?_, hf, hr⟩
  · rw [hc 4 (by decide), hc 5 (by decide), hc 6 (by decide), hc 7 (by decide), hc 8 (by decide), m0 4 (by decide), hm 1 (by decide), hm 2 (by decide), hm 3 (by decide), hm 4 (by decide)]; exact h.court
  · rw [hc 9 (by decide), hc 10 (by decide), hc 11 (by decide), hc 12 (by decide), hc 13 (by decide), hc 14 (by decide), hc 15 (by decide), hc 16 (by decide), hc 17 (by decide), hc 18 (by decide), hc 19 (by decide), m0 5 (by decide), hm 5 (by decide), hm 6 (by decide), hm 7 (by decide), hm 8 (by decide), hm 9 (by decide), hm 10 (by decide), hm 11 (by decide), hm 12 (by decide), hm 13 (by decide), hm 14 (by decide)]; exact h.land
  · rw [hc 20 (by decide), hc 21 (by decide), hc 22 (by decide), m0 6 (by decide), hm 15 (by decide), hm 16 (by decide)]; exact h.cal
  · rw [c0 12 (by decide)]; exact n2
  · rw [m0 8 (by decide)]; exact n3
  · rw [c0 13 (by decide), m0 9 (by decide)]; exact n5
  · rw [c0 13 (by decide)]; exact n6
  · rw [hc 2 (by decide), hc 3 (by decide), hm 17 (by decide), hm 18 (by decide)]; exact h.past
  · rw [hc 1 (by decide), hc 8 (by decide), m0 57 (by decide), hm 36 (by decide)]; exact h.ldg
  · rw [hc 45 (by decide), hc 50 (by decide), m0 61 (by decide), m0 62 (by decide), hm 40 (by decide)]; exact h.told
  · rw [hc 51 (by decide), hc 53 (by decide), m0 7 (by decide), hm 21 (by decide)]; exact h.plz
  · rw [hc 51 (by decide), hc 52 (by decide), hc 53 (by decide), hc 54 (by decide), m0 7 (by decide), hm 19 (by decide), hm 20 (by decide), hm 21 (by decide)]; exact h.que
set_option maxHeartbeats 4000000 in
theorem ft_114 {n np t : Nat} {M MM : Nat → Nat → Int32} (h : fn_I n np t M MM) (x y : Int32) : fn_Y 114 174 [.int x, .int y] M MM := by
  intro c al am kl mk N hcc hJJ
  obtain ⟨K, K1, K2, K3, K4⟩ := h.tap
  obtain ⟨v6, k, k1, k2, k3, k4⟩ := h.rul
  rw [show ai_ent (ai_mx 114) [.ref 0, .int x, .int y] = [.ref 0, .int x, .int y] from rfl, show ai_ent (ai_mx 174) [.ref 0, .int x, .int y] = [.ref 0, .int x, .int y, ai_un] from rfl]
  rw [bq_114_0, fw_141, fb_s, bq_114_1, bq_174_0, fw_152, fb_s, bq_174_1, show (ai_up MM 0 0 0) 0 33 = nI K from K3]
  have no : ∃ v : Value, ai_run 200 174 2 [.ref 0, .int x, .int y, ai_un] [] (hM am (ai_up MM 0 0 0) N) = some (.inl (some (.int (-1))), hM am (fn_noM (fn_z MM) 2) N) ∧ ai_run 200 114 3 [.ref 0, .int x, .int y] [] (hC al kl M) = some (.inl (some (.int (-1))), hC al kl (fn_noC M 2)) := ⟨ai_un, by rw [bq_174_2, bq_144_0, fb_s, bq_174_3]; rfl, by rw [bq_114_3, bq_136_0, fb_s, bq_114_4]; rfl⟩
  obtain ⟨-, no1, no2⟩ := no
  have bad : ∃ (v : Int32) (n np t : Nat) (M1 MM1 : Nat → Nat → Int32) (al1 : Nat × Nat) (kl1 mk1 : Nat) (N1 : Nat → Nat → Int64), ai_run 200 114 3 [.ref 0, .int x, .int y] [] (hC al kl M) = some (.inl (some (.int v)), hC al1 kl1 M1) ∧ ai_run 200 174 2 [.ref 0, .int x, .int y, ai_un] [] (hM am (ai_up MM 0 0 0) N) = some (.inl (some (.int v)), hM am MM1 N1) ∧ fn_J (c + 1) al1 kl1 mk1 M1 ∧ fn_I n np t M1 MM1 := ⟨_, n, np, t, _, _, al, kl, mk, N, no2, no1, hJJ.more, h.no 2⟩
  by_cases hx : 0 ≤ x ∧ x < 200
  · rw [if_neg (fun z => fn_b0.mp z hx), if_neg (fun z => fn_b0.mp z hx), fw_142, fb_s, bq_114_2, K2]
    by_cases hy : 0 ≤ y ∧ y ≤ nI K
    · obtain ⟨day, d1, d2⟩ := fi_of (n := 200) (by omega) hx
      obtain ⟨nn, n1, n2⟩ := fi_le (n := K) (by omega) hy.1 hy.2
      rw [if_neg (fun z => fn_b0.mp z hy), if_neg (Int32.not_lt.mpr hy.1), if_pos hy.2]
      obtain ⟨b, hb⟩ : ∃ b : Nat → Nat, b = fun j => (M 29 j).toNatClampNeg := ⟨_, rfl⟩
      have hbj : ∀ j, j < nn → M 29 j = nI (b j) ∧ b j ≤ 255 := fun j hj => by
        obtain ⟨e1, e2, e3⟩ := K4 j (by omega)
        obtain ⟨c, c1, c2⟩ := fi_le (n := 255) (by omega) e2 e3
        rw [hb]
        show M 29 j = nI (M 29 j).toNatClampNeg ∧ (M 29 j).toNatClampNeg ≤ 255
        rw [c2, nI_clamp (by omega)]
        exact ⟨rfl, c1⟩
      -- the class scans
      obtain ⟨Ms, hMs⟩ : ∃ Ms, Ms = ai_up (ai_up M 28 2 (nI nn)) 28 3 (nI 0) := ⟨_, rfl⟩
      have hB : fp_Bc b nn (ai_up M 28 2 (nI nn)) := ⟨by omega, fu_at, hbj⟩
      obtain ⟨L, r30, r31, s1, s2⟩ := fl_94 (d := 195) (al := al) (kl := kl) (n := nn) (b := b) (M := ai_up M 28 2 (nI nn)) hB (nn + 1) 0 0 (M 30) (M 31) ai_un ai_un (by show nn < nn + 1 + 0; omega) (Nat.zero_le _) (Nat.le_refl _) (by decide) (by decide) (fun j hj => absurd hj (Nat.not_lt_zero _)) (fun j hj => absurd hj (Nat.not_lt_zero _))
      have eid : fn_rw (fn_rw (ai_up M 28 2 (nI nn)) 30 (M 30)) 31 (M 31) = ai_up M 28 2 (nI nn) := by
        rw [show fn_rw (ai_up M 28 2 (nI nn)) 30 (M 30) = ai_up M 28 2 (nI nn) from fn_rw_id (M := ai_up M 28 2 (nI nn)) (k := 30)]
        exact fn_rw_id (M := ai_up M 28 2 (nI nn)) (k := 31)
      rw [eid] at s1
      have c94 : ai_run 199 94 0 [.ref 28, .int (nI nn), ai_un, ai_un, ai_un] [] (hC al kl M) = some (.inl none, hC al kl (ai_up (fn_rw (fn_rw (ai_up M 28 2 (nI nn)) 30 r30) 31 r31) 28 3 (nI (L + 1)))) := by
        rw [bq_94_0, K2, fw_212 (by omega) (by omega), Nat.min_eq_left n1, fb_s, bq_94_1, bq_211_0]
        rw [show ai_back ai_run (198 + 1) 94 0 [.ref 28, ai_un, ai_un, ai_un, ai_un] [.ref 28] (fun L st h => ai_run (198 + 1) 94 2 L st h) (if (0 : Int32) < nI nn then ai_run 198 211 1 [.int 0, .int (nI nn)] [] (hC al kl M) else ai_run 198 211 2 [.int 0, .int (nI nn)] [.int 0] (hC al kl M)) = ai_run 199 94 2 [.ref 28, ai_un, ai_un, ai_un, ai_un] [.int (nI nn), .ref 28] (hC al kl M) from by
          by_cases z : 0 < nn
          · rw [if_pos (show (0 : Int32) < nI nn from fj_lt (c := 0) (n := 0) rfl z (by omega)), bq_211_1, bq_211_2, fb_s]
          · have : nn = 0 := by omega
            subst this
            rw [if_neg (by decide), bq_211_2, fb_s]
            rfl, bq_94_2]
        exact s1
      -- the class before reading
      obtain ⟨M0, hM0⟩ : ∃ M0, M0 = ai_up (ai_up (ai_up (ai_up (ai_up (ai_up (fn_rw (fn_rw (ai_up M 28 2 (nI nn)) 30 r30) 31 r31) 28 3 (nI (L + 1))) 28 0 0) 32 2 0) 32 3 0) 32 4 (fp_tk b nn 0)) 25 k 0 := ⟨_, rfl⟩
      have r32 : ∀ j, M0 28 j = if j = 0 then 0 else if j = 3 then nI (L + 1) else if j = 2 then nI nn else M 28 j := fun j => by
        subst hM0
        show upd (upd (upd (M 28) 2 (nI nn)) 3 (nI (L + 1))) 0 0 j = _
        unfold upd
        rfl
      have tk0 : ∀ Q : Nat → Nat → Int32, Q 28 3 = nI (L + 1) → Q 30 = r30 → ai_run 198 92 0 [.ref 28, .int 0] [] (hC al kl Q) = some (.inl (some (.int (fp_tk b nn 0))), hC al kl Q) := fun Q q1 q2 => by
        rw [bq_92_0, q1, if_neg (by decide), if_neg (show ¬ nI (L + 1) ≤ 0 from nI_nle (by omega) (by have := s2.1; omega)), show ai_in 0 401 = true from rfl, cond_true, q2, show (0 : Int32).toNatClampNeg = 0 from rfl, (s2.2.2.1 0 (Nat.zero_le _)).1, bq_92_2]
      have c60 : ai_run 199 60 0 [.ref 32, ai_un] [] (hC al kl (ai_up (ai_up (fn_rw (fn_rw (ai_up M 28 2 (nI nn)) 30 r30) 31 r31) 28 3 (nI (L + 1))) 28 0 0)) = ai_run 199 60 3 [.ref 32, .int (nI 0)] [] (hC al kl M0) := by
        rw [bq_60_0, tk0 _ (by rw [fu_row (by decide), fu_row (by decide), fu_ne (by decide), fu_at]) rfl, fb_s, bq_60_1, bq_73_0]
        have e23 : (ai_up (ai_up (ai_up (ai_up (ai_up (fn_rw (fn_rw (ai_up M 28 2 (nI nn)) 30 r30) 31 r31) 28 3 (nI (L + 1))) 28 0 0) 32 2 0) 32 3 0) 32 4 (fp_tk b nn 0)) 23 2 = nI k := k2
        rw [e23, if_neg (fj_nlt (c := 10) (n := 10) rfl k1 (by omega)), fi_in (by omega), decide_eq_true (by omega), cond_true, nI_clamp (by omega), bq_73_1, fb_n, bq_60_2, ← hM0]
        rfl
      -- the reference before reading
      obtain ⟨MM1, hMM1⟩ : ∃ MM1, MM1 = ai_up (ai_up (ai_up (ai_up (ai_up (ai_up MM 0 0 0) 0 34 (nI nn)) 0 33 0) 0 35 0) 0 3 0) 25 k 0 := ⟨_, rfl⟩
      have hD1 : fp_Dm b nn MM1 := by
        subst hMM1
        exact ⟨by omega, rfl, fun j hj => ⟨(K4 j (by omega)).1 ▸ (hbj j hj).1, (hbj j hj).2⟩⟩
      obtain ⟨MM2, N2, w1, w2, w3, w4, w5⟩ := fw_166 (d := 197) (al := am) (N := N) (v1 := ai_un) (v2 := ai_un) (p := 0) hD1 (Nat.zero_le _) (by subst hMM1; rfl)
      have c170 : ai_run 199 170 0 [.ref 0, ai_un, ai_un, ai_un, ai_un, ai_un] [] (hM am (ai_up (ai_up (ai_up (ai_up (ai_up MM 0 0 0) 0 34 (nI nn)) 0 33 0) 0 35 0) 0 3 0) N) = ai_run 199 170 2 [.ref 0, .int (nI k), .int 1, ai_un, ai_un, ai_un] [] (hM am MM2 N2) := by
        rw [bq_170_0, show (ai_up (ai_up (ai_up (ai_up (ai_up MM 0 0 0) 0 34 (nI nn)) 0 33 0) 0 35 0) 0 3 0) 0 41 = nI k from k3, fi_in (by omega), decide_eq_true (by omega), cond_true, nI_clamp (by omega), ← hMM1, w1, fb_n, bq_170_1]
      have J0 : fp_J b nn L k 0 M0 MM2 N2 := by
        refine ⟨⟨Nat.zero_le _, by subst hM0; rfl, by subst hM0; rfl⟩, ?_, w2.D hD1, w3, w4, w5, by subst hM0; exact k2, ?_⟩
        · have e28 : M0 28 3 = nI (L + 1) := by rw [r32]; rfl
          rw [e28, show M0 30 = r30 by subst hM0; rfl, show M0 31 = r31 by subst hM0; rfl]
          exact s2
        · rw [w2.2 41 (by omega)]; subst hMM1; exact k3
      have Z0 : fp_Zm k 0 M0 MM2 := by
        refine ⟨⟨k1, by omega⟩, by subst hM0; exact fu_at, ?_, fun r hr => absurd hr (Nat.not_lt_zero _)⟩
        rw [w2.1 25 (by decide)]; subst hMM1; exact fu_at
      have F0m : fp_Fm k MM1 MM2 := fp_Fm.refl.ag w2
      have hJ1 : ∀ M' : Nat → Nat → Int32, M' 49 = M 49 → M' 45 = M 45 → fn_J (c + 1) al kl mk M' := fun M' q1 q2 => by
        have := hJJ.more
        refine ⟨this.1, this.2.1, ?_, ?_⟩
        · rw [q2]; exact this.2.2.1
        · rw [q1]; exact this.2.2.2
      rw [n2, bq_114_5, c94, fb_n, bq_114_6, c60, bq_174_4, c170]
      -- frames, to the rows of the start
      have fc : ∀ (M' : Nat → Nat → Int32), fp_Fc k M0 M' → (∀ a, a ∉ [0, 23, 24, 25, 26, 28, 30, 31, 32] → M' a = M a) ∧ M' 0 = M 0 ∧ M' 24 = M 24 ∧ M' 28 = M0 28 ∧ M' 31 = r31 ∧ M' 27 = M 27 ∧ M' 23 2 = nI k ∧ (∀ j, j ≠ k → M' 25 j = M 25 j) ∧ ∀ j, j < 276 * k → M' 26 j = M 26 j := fun M' hF => by
        refine ⟨fun a ha => ?_, ?_, ?_, hF.1 28 (by decide), ?_, ?_, ?_, fun j hj => ?_, fun j hj => ?_⟩
        · have h1 : a ∉ [23, 25, 26, 32] := fun z => ha (by simp at z ⊢; omega)
          rw [hF.1 a h1]
          subst hM0
          have h2 : a ≠ 25 ∧ a ≠ 32 ∧ a ≠ 28 ∧ a ≠ 31 ∧ a ≠ 30 := by simp at ha; omega
          simp [ai_up, fn_rw, h2.1, h2.2.1, h2.2.2.1, h2.2.2.2.1, h2.2.2.2.2]
        · rw [hF.1 0 (by decide)]; subst hM0; rfl
        · rw [hF.1 24 (by decide)]; subst hM0; rfl
        · rw [hF.1 31 (by decide)]; subst hM0; rfl
        · rw [hF.1 27 (by decide)]; subst hM0; rfl
        · rw [hF.2.1 2 (by decide)]; subst hM0; exact k2
        · rw [hF.2.2.1 j hj]; subst hM0; exact fu_ne hj
        · rw [hF.2.2.2 j hj]; subst hM0; rfl
      have fm : ∀ (MM' : Nat → Nat → Int32), fp_Fm k MM1 MM' → (∀ a, a ∉ [0, 22, 24, 25, 26, 27, 28, 29, 30, 31, 32, 33] → MM' a = MM a) ∧ (∀ j, j ∈ [4, 5, 6, 7, 8, 9, 57, 61, 62] → MM' 0 j = MM 0 j) ∧ MM' 24 = MM 24 ∧ MM' 0 33 = 0 ∧ MM' 0 3 = 0 ∧ MM' 0 41 = nI k ∧ (∀ j, j ≠ k → MM' 25 j = MM 25 j) ∧ (∀ a, a ∈ [26, 27, 28] → ∀ j, j < 12 * k → MM' a j = MM a j) ∧ ∀ a, a ∈ [29, 30, 31, 32, 33] → ∀ j, j < 48 * k → MM' a j = MM a j := fun MM' hF => by
        refine ⟨fun a ha => ?_, fun j hj => ?_, ?_, ?_, ?_, ?_, fun j hj => ?_, fun a ha j hj => ?_, fun a ha j hj => ?_⟩
        · have h1 : a ∉ [0, 22, 25, 26, 27, 28, 29, 30, 31, 32, 33] := fun z => ha (by simp at z ⊢; omega)
          rw [hF.1 a h1]
          subst hMM1
          have h2 : a ≠ 25 ∧ a ≠ 0 := by simp at ha; omega
          simp [ai_up, h2.1, h2.2]
        · have h1 : j < 35 ∨ 39 < j := by simp at hj; omega
          rw [hF.2.1 j h1]
          subst hMM1
          have h2 : j ≠ 3 ∧ j ≠ 35 ∧ j ≠ 33 ∧ j ≠ 34 ∧ j ≠ 0 := by simp at hj; omega
          rw [fu_row (by decide), fu_ne h2.1, fu_ne h2.2.1, fu_ne h2.2.2.1, fu_ne h2.2.2.2.1, fu_ne h2.2.2.2.2]
        · rw [hF.1 24 (by decide)]; subst hMM1; rfl
        · rw [hF.2.1 33 (by omega)]; subst hMM1; rfl
        · rw [hF.2.1 3 (by omega)]; subst hMM1; rfl
        · rw [hF.2.1 41 (by omega)]; subst hMM1; exact k3
        · rw [hF.2.2.1 j hj]; subst hMM1; exact fu_ne hj
        · rw [hF.2.2.2.1 a ha j hj]
          subst hMM1
          have h2 : a ≠ 25 ∧ a ≠ 0 := by simp at ha; omega
          simp [ai_up, h2.1, h2.2]
        · rw [hF.2.2.2.2 a ha j hj]
          subst hMM1
          have h2 : a ≠ 25 ∧ a ≠ 0 := by simp at ha; omega
          simp [ai_up, h2.1, h2.2]
      -- the old ordinances stand
      have old : ∀ (M' MM' : Nat → Nat → Int32), fp_Fc k M0 M' → fp_Fm k MM1 MM' → ∀ o, o < k → (∃ f : Nat, f < 200 ∧ M' 24 o = nI f ∧ MM' 24 o = nI f) ∧ ∃ m : Nat, m ≤ 12 ∧ M' 25 o = nI m ∧ MM' 25 o = nI m ∧ ∀ r : Nat, r < m → fn_ru (12 * o + r) (M' 26) (MM' 26) (MM' 27) (MM' 28) (MM' 29) (MM' 30) (MM' 31) (MM' 32) (MM' 33) := fun M' MM' hF hG o ho => by
        obtain ⟨-, -, f24, -, -, -, -, f25, f26⟩ := fc M' hF
        obtain ⟨-, -, g24, -, -, -, g25, g26, g29⟩ := fm MM' hG
        obtain ⟨⟨f, f1, f2, f3⟩, m, m1, m2, m3, m4⟩ := k4 o ho
        refine ⟨⟨f, f1, by rw [f24]; exact f2, by rw [g24]; exact f3⟩, m, m1, by rw [f25 o (by omega)]; exact m2, by rw [g25 o (by omega)]; exact m3, fun r hr => ?_⟩
        refine (m4 r hr).cg (fun j h1 h2 => f26 j (by omega)) (g26 26 (by decide) _ (by omega)) (g26 27 (by decide) _ (by omega)) (g26 28 (by decide) _ (by omega)) (fun j h1 h2 => ⟨g29 29 (by decide) j (by omega), g29 30 (by decide) j (by omega), g29 31 (by decide) j (by omega), g29 32 (by decide) j (by omega), g29 33 (by decide) j (by omega)⟩)
      have hL := s2.1
      have tap0 : ∀ r29 s23 : Nat → Int32, fn_tap 0 r29 0 s23 := fun r29 s23 => ⟨0, by omega, rfl, rfl, fun j hj => absurd hj (Nat.not_lt_zero _)⟩
      have e28a : M0 28 0 = 0 := by rw [r32]; rfl
      have e28b : M0 28 3 = nI (L + 1) := by rw [r32]; rfl
      rcases fp_rules (d := 193) (e := 194) (al := al) (am := am) (kl := kl) (M0 := M0) (MM0 := MM1) (f0 := 0) 12 0 0 M0 MM2 N2 1 ai_un ai_un ai_un (by omega) J0 Z0 fp_Fc.refl F0m (by subst hM0; rfl) (by decide) with ⟨M', MM', N', p1, p2, ⟨i, kd, x1, x2, x3, x4, x5, x6, x7⟩⟩ | ⟨m, M', MM', N', p1, p2, p3, p4, p5, p6⟩
      · -- a fault
        obtain ⟨q1, q2, q3, q4, q5, q6, q7, q8, q9⟩ := fc M' x6
        obtain ⟨u1, u2, u3, u4, u5, u6, u7, u8, u9⟩ := fm MM' x7
        have e45 : M' 45 = M 45 := q1 45 (by decide)
        have e49 : M' 49 = M 49 := q1 49 (by decide)
        rw [p1, fb_s, bq_114_7, if_pos rfl, bq_136_0, fb_s, bq_114_8, p2]
        rw [show ai_back ai_run (199 + 1) 174 6 [.ref 0, .int x, .int (nI nn), ai_un] [] (fun L st h => ai_run (199 + 1) 174 5 L st h) (some (.inr 22, hM am MM' N')) = ai_run 200 174 6 [.ref 0, .int x, .int (nI nn), ai_un] [.ref 22] (hM am MM' N') from rfl, bq_174_6, x4, x5]
        refine ⟨_, n, np, t, _, _, al, kl, mk, N', rfl, rfl, hJ1 _ e49 e45, h.par ?_ ?_ ?_ ?_ ?_ ?_ ?_ ?_⟩
        · intro a ha
          rw [fu_row (fun z => ha (by rw [z]; decide))]; exact q1 a ha
        · intro a ha
          have h0 : a ≠ 0 := fun z => ha (by rw [z]; decide)
          rw [fu_row h0, fu_row h0, fu_row h0]; exact u1 a ha
        · intro j hj
          rw [fu_ne hj, q2]
        · intro j hj
          have h2 : j ≠ 2 ∧ j ≠ 1 ∧ j ≠ 3 := by simp at hj; omega
          rw [fu_ne h2.1, fu_ne h2.2.1, fu_ne h2.2.2]; exact u2 j hj
        · have ep : fn_pl (M' 32 3) (M' 28 3) (M' 31) = nI (fp_pl b nn i) := by
            unfold fn_pl
            rw [x3, q4, e28b, q5, if_pos ⟨nI_pos' (by omega), nI_lt (by omega) (by omega)⟩, nI_clamp (by omega)]
            exact (s2.2.2.1 i x1).2.1
          show ((4 : Int32), nI (fp_pl b nn i)) = ((4 : Int32), if (4 : Int32) = 4 then fn_pl (M' 32 3) (M' 28 3) (M' 31) else -1)
          rw [if_pos rfl, ep]
        · show fn_tap (M' 28 0) (M' 29) (MM' 0 33) (MM' 23)
          rw [q4, e28a, u4]; exact tap0 _ _
        · show fn_flt (M' 32 2) (M' 28 3) kd
          rw [q4, e28b]; exact ⟨x2, L + 1, by omega, rfl⟩
        · refine ⟨by show M' 27 6 = 1; rw [q6]; exact v6, k, k1, q7, u6, old M' MM' x6 x7⟩
      · -- a text without fault
        obtain ⟨q1, q2, q3, q4, q5, q6, q7, q8, q9⟩ := fc M' p4
        obtain ⟨u1, u2, u3, u4, u5, u6, u7, u8, u9⟩ := fm MM' p5
        have e45 : M' 45 = M 45 := q1 45 (by decide)
        have e49 : M' 49 = M 49 := q1 49 (by decide)
        rw [p1, fb_s, bq_114_7, if_neg (by decide), bq_114_9, q7, p2, fb_n, bq_174_5, bq_174_7, u6]
        by_cases hk : k < 10
        · rw [if_pos (fj_gt (c := 10) (n := 10) rfl hk (by omega)), if_neg (fj_ne (c := 10) (n := 10) rfl (by omega) (by omega) (by omega)), bq_114_11, bq_78_0, q7, if_pos (fj_gt (c := 10) (n := 10) rfl hk (by omega)), bq_78_1, q7, fi_in (by omega), decide_eq_true hk, cond_true, nI_clamp (by omega), nI_1, nI_pred, fb_s, bq_114_12, bq_137_0, fb_s, bq_114_13, bq_174_9, u6, fi_in (by omega), decide_eq_true hk, cond_true, nI_clamp (by omega), nI_1, nI_pred, bq_146_0, fb_s, bq_174_10]
          refine ⟨_, n, np, t, _, _, al, kl, mk, N', rfl, rfl, hJ1 _ e49 e45, h.par ?_ ?_ ?_ ?_ ?_ ?_ ?_ ?_⟩
          · intro a ha
            have h2 : a ≠ 0 ∧ a ≠ 23 ∧ a ≠ 24 := by simp at ha; omega
            rw [fu_row h2.1, fu_row h2.2.1, fu_row h2.2.2]; exact q1 a ha
          · intro a ha
            have h2 : a ≠ 0 ∧ a ≠ 24 := by simp at ha; omega
            rw [fu_row h2.1, fu_row h2.1, fu_row h2.1, fu_row h2.2]; exact u1 a ha
          · intro j hj
            rw [fu_ne hj, fu_row (by decide), fu_row (by decide), q2]
          · intro j hj
            have h2 : j ≠ 2 ∧ j ≠ 1 ∧ j ≠ 41 := by simp at hj; omega
            rw [fu_ne h2.1, fu_ne h2.2.1, fu_ne h2.2.2, fu_row (by decide)]; exact u2 j hj
          · rfl
          · show fn_tap (M' 28 0) (M' 29) (MM' 0 33) (MM' 23)
            rw [q4, e28a, u4]; exact tap0 _ _
          · show fn_flt (M' 32 2) (M' 28 3) (MM' 0 3)
            rw [q4, e28b, u5]; exact ⟨p6, L + 1, by omega, rfl⟩
          · refine ⟨by show M' 27 6 = 1; rw [q6]; exact v6, k + 1, by omega, show upd (M' 23) 2 (nI (k + 1)) 2 = nI (k + 1) from pk_us, rfl, fun o ho => ?_⟩
            show (∃ f : Nat, f < 200 ∧ upd (M' 24) k x o = nI f ∧ upd (MM' 24) k x o = nI f) ∧ ∃ m : Nat, m ≤ 12 ∧ M' 25 o = nI m ∧ MM' 25 o = nI m ∧ ∀ r : Nat, r < m → fn_ru (12 * o + r) (M' 26) (MM' 26) (MM' 27) (MM' 28) (MM' 29) (MM' 30) (MM' 31) (MM' 32) (MM' 33)
            by_cases e : o = k
            · subst e
              rw [pk_us, pk_us]
              obtain ⟨⟨y1, y2⟩, y3, y4, y5⟩ := p3
              exact ⟨⟨day, d1, d2, d2⟩, m, y2, y3, y4, y5⟩
            · rw [pk_un e, pk_un e]
              exact old M' MM' p4 p5 o (by omega)
        · have k10 : k = 10 := by omega
          rw [if_neg (fj_ngt (c := 10) (n := 10) rfl (by omega) (by omega)), if_pos (by rw [k10]; rfl), bq_136_0, fb_s, bq_114_10, bq_144_0, fb_s, bq_174_8]
          refine ⟨_, n, np, t, _, _, al, kl, mk, N', rfl, rfl, hJ1 _ e49 e45, h.par ?_ ?_ ?_ ?_ ?_ ?_ ?_ ?_⟩
          · intro a ha
            rw [fu_row (fun z => ha (by rw [z]; decide))]; exact q1 a ha
          · intro a ha
            have h0 : a ≠ 0 := fun z => ha (by rw [z]; decide)
            rw [fu_row h0, fu_row h0]; exact u1 a ha
          · intro j hj
            rw [fu_ne hj, q2]
          · intro j hj
            have h2 : j ≠ 2 ∧ j ≠ 1 := by simp at hj; omega
            rw [fu_ne h2.1, fu_ne h2.2]; exact u2 j hj
          · rfl
          · show fn_tap (M' 28 0) (M' 29) (MM' 0 33) (MM' 23)
            rw [q4, e28a, u4]; exact tap0 _ _
          · show fn_flt (M' 32 2) (M' 28 3) (MM' 0 3)
            rw [q4, e28b, u5]; exact ⟨p6, L + 1, by omega, rfl⟩
          · exact ⟨by show M' 27 6 = 1; rw [q6]; exact v6, k, k1, q7, u6, old M' MM' p4 p5⟩
    · rw [if_pos (fn_b0.mpr hy)]
      by_cases y0 : y < 0
      · rw [if_pos y0]; exact bad
      · rw [if_neg y0, if_neg (fun z => hy ⟨Int32.not_lt.mp y0, z⟩)]; exact bad
  · rw [if_pos (fn_b0.mpr hx), if_pos (fn_b0.mpr hx)]
    exact bad
