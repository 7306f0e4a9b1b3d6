/-! ordinances: a test, a term -/
theorem fp_nm {x : Int32} (h : 0 ≤ x ∧ x ≤ 5) : x ≠ -1 ∧ x ≠ -2 ∧ ∃ c : Nat, c ≤ 5 ∧ x = nI c := by
  obtain ⟨c, c1, c2⟩ := fi_le (n := 5) (by omega) h.1 h.2
  exact ⟨by rw [c2]; exact fi_m1 (by omega), by rw [c2]; exact fp_m2 (by omega), c, c1, c2⟩
set_option maxHeartbeats 4000000 in
theorem fp_test {d e : Nat} {al am : Nat × Nat} {kl : Nat} {b : Nat → Nat} {n L k m q i : Nat} {M0 MM0 M MM : Nat → Nat → Int32} {N : Nat → Nat → Int64} (hJ : fp_J b n L k i M MM N) (hV : fp_Vm k m q 0 false M MM) (hc : fp_Fc k M0 M) (hm : fp_Fm k MM0 MM) {v2 v3 : Value} : (∃ (M' MM' : Nat → Nat → Int32) (N' : Nat → Nat → Int64), ai_run (d + 4) 63 2 [.ref 32, .int (nI q)] [] (hC al kl M) = some (.inl (some (.int 0)), hC al kl M') ∧ ai_run (e + 4) 171 0 [.ref 0, .int (nI (12 * k + m)), v2, v3] [] (hM am MM N) = some (.inr 22, hM am MM' N') ∧ fp_X b n L k M0 MM0 M' MM') ∨ (q < 4 ∧ ∃ (i' : Nat) (M' MM' : Nat → Nat → Int32) (N' : Nat → Nat → Int64), ai_run (d + 4) 63 2 [.ref 32, .int (nI q)] [] (hC al kl M) = ai_run (d + 4) 63 9 [.ref 32, .int (nI q)] [] (hC al kl M') ∧ ai_run (e + 4) 171 0 [.ref 0, .int (nI (12 * k + m)), v2, v3] [] (hM am MM N) = some (.inl none, hM am MM' N') ∧ fp_J b n L k i' M' MM' N' ∧ fp_Vm k m (q + 1) 0 false M' MM' ∧ fp_Fc k M0 M' ∧ fp_Fm k MM0 MM' ∧ M' 32 2 = M 32 2) := by
  obtain ⟨⟨a1, a2, a3, a4⟩, ⟨b1, b2, b3⟩, ⟨t1, t2, t3⟩, -, -, -⟩ := id hV
  have ip : ai_in (nI (12 * k + m)) 132 = true := by rw [fi_in (by omega)]; exact decide_eq_true (by omega)
  rw [bq_63_2, fw_69, fb_s, bq_63_3, bq_171_0, fw_169 hJ.2.2.2.2.1, hJ.1.2.2]
  by_cases hn : 0 ≤ fp_tk b n i ∧ fp_tk b n i ≤ 5
  · obtain ⟨n1, n2, n3⟩ := fp_nm hn
    rw [if_neg (fun z => fn_b0.mp z hn), if_pos hn, fb_s, bq_63_5, bq_171_1, ip, cond_true, nI_clamp (by omega), t2]
    by_cases hq : q < 4
    · have i5 : ai_in (nI (4 * (12 * k + m) + q)) 528 = true := by rw [fi_in (by omega)]; exact decide_eq_true (by omega)
      rw [if_pos (fj_gt (c := 4) (n := 4) rfl hq (by omega)), if_neg (fj_ne (c := 4) (n := 4) rfl (by omega) (by omega) (by omega)), bq_63_7, bq_64_0, hJ.1.2.2, bq_171_3, ip, cond_true, nI_clamp (by omega), t2, show (4 : Int32) = nI 4 from rfl, pk_mul, nI_add, i5, cond_true, nI_clamp (by omega)]
      obtain ⟨g1, MM2, N2, g2, g3, g4⟩ := fp_go (d := d + 1) (e := e + 2) (al := al) (am := am) (kl := kl) (v1 := ai_un) (v2 := ai_un) (show fp_J b n L k i M (ai_up MM 29 (4 * (12 * k + m) + q) (fp_tk b n i)) N from hJ) n1 n2
      have hm2 : fp_Fm k MM0 MM2 := (hm.u2 (r := 29) (by decide) (show 48 * k ≤ 4 * (12 * k + m) + q by omega) (fp_tk b n i)).ag g3
      have hc2 : fp_Fc k M0 (fp_adv b n i M) := (hc.u32 3 _).u32 4 _
      have s60 := fw_168 (d := e + 3) (al := am) (x := 60) g4.2.2.2.2.1 (c := 60) (by decide) rfl
      have s62 := fw_168 (d := e + 3) (al := am) (x := 62) g4.2.2.2.2.1 (c := 62) (by decide) rfl
      have s61 := fw_168 (d := e + 3) (al := am) (x := 61) g4.2.2.2.2.1 (c := 61) (by decide) rfl
      rw [g1, fb_n, bq_64_1, g4.1.2.2, g2, fb_n, bq_171_4, s60, fb_s, bq_171_5]
      have go : (fp_tk b n (i + 1) = 60 ∨ fp_tk b n (i + 1) = 62 ∨ fp_tk b n (i + 1) = 61) → (∃ (M' MM' : Nat → Nat → Int32) (N' : Nat → Nat → Int64), ai_back ai_run (d + 3 + 1) 63 0 [.ref 32, .int (nI q)] [] (fun L st h => ai_run (d + 3 + 1) 63 8 L st h) (ai_run (d + 2 + 1) 64 3 [.ref 32, .int (fp_tk b n i), .int (fp_tk b n (i + 1))] [] (hC al kl (fp_adv b n i M))) = some (.inl (some (.int 0)), hC al kl M') ∧ ai_run (e + 3 + 1) 171 9 [.ref 0, .int (nI (12 * k + m)), ai_un, .int (nI (4 * (12 * k + m) + q))] [] (hM am MM2 N2) = some (.inr 22, hM am MM' N') ∧ fp_X b n L k M0 MM0 M' MM') ∨ (q < 4 ∧ ∃ (i' : Nat) (M' MM' : Nat → Nat → Int32) (N' : Nat → Nat → Int64), ai_back ai_run (d + 3 + 1) 63 0 [.ref 32, .int (nI q)] [] (fun L st h => ai_run (d + 3 + 1) 63 8 L st h) (ai_run (d + 2 + 1) 64 3 [.ref 32, .int (fp_tk b n i), .int (fp_tk b n (i + 1))] [] (hC al kl (fp_adv b n i M))) = ai_run (d + 4) 63 9 [.ref 32, .int (nI q)] [] (hC al kl M') ∧ ai_run (e + 3 + 1) 171 9 [.ref 0, .int (nI (12 * k + m)), ai_un, .int (nI (4 * (12 * k + m) + q))] [] (hM am MM2 N2) = some (.inl none, hM am MM' N') ∧ fp_J b n L k i' M' MM' N' ∧ fp_Vm k m (q + 1) 0 false M' MM' ∧ fp_Fc k M0 M' ∧ fp_Fm k MM0 MM' ∧ M' 32 2 = M 32 2) := by
        intro hsg
        obtain ⟨c, c1, c2⟩ : ∃ c : Nat, fp_sg c = true ∧ fp_tk b n (i + 1) = nI c := by
          rcases hsg with z | z | z
          · exact ⟨60, by decide, z⟩
          · exact ⟨62, by decide, z⟩
          · exact ⟨61, by decide, z⟩
        have hcl := fp_sg_le c1
        have e38 : MM2 0 38 = fp_tk b n (i + 1) := by rw [c2]; exact ((g4.2.2.2.2.1.sign c1).mpr c2).2
        obtain ⟨g5, MM4, N4, g6, g7, g8⟩ := fp_go (d := d + 1) (e := e + 2) (al := al) (am := am) (kl := kl) (v1 := ai_un) (v2 := ai_un) (show fp_J b n L k (i + 1) (fp_adv b n i M) (ai_up MM2 30 (4 * (12 * k + m) + q) (fp_tk b n (i + 1))) N2 from g4) (by rw [c2]; exact fi_m1 (by omega)) (by rw [c2]; exact fp_m2 (by omega))
        have hm4 : fp_Fm k MM0 MM4 := (hm2.u2 (r := 30) (by decide) (show 48 * k ≤ 4 * (12 * k + m) + q by omega) _).ag g7
        have hc4 : fp_Fc k M0 (fp_adv b n (i + 1) (fp_adv b n i M)) := (hc2.u32 3 _).u32 4 _
        rw [bq_64_3, g5, fb_n, bq_64_4, fw_68, fb_s, bq_64_5, g8.1.2.2, bq_171_9, i5, cond_true, nI_clamp (by omega), e38, g6, fb_n, bq_171_10]
        rcases g8.2.2.2.2.1.num with ⟨h3, w, w1, w2, w3⟩ | ⟨h3, w1⟩
        · have hnl : ¬ fp_tk b n (i + 1 + 1) < 1000 := by rw [w2]; exact fj_ngt (c := 1000) (n := 1000) rfl (by omega) (by omega)
          obtain ⟨g9, MM6, N6, g10, g11, g12⟩ := fp_go (d := d + 1) (e := e + 2) (al := al) (am := am) (kl := kl) (v1 := ai_un) (v2 := ai_un) (show fp_J b n L k (i + 1 + 1) (ai_up (ai_up (ai_up (ai_up (fp_adv b n (i + 1) (fp_adv b n i M)) 26 (23 * (12 * k + m) + 3 + 3 * q) (fp_tk b n i)) 26 (23 * (12 * k + m) + 3 + 3 * q + 1) (fp_tk b n (i + 1))) 26 (23 * (12 * k + m) + 3 + 3 * q + 2) (nI w)) 26 (23 * (12 * k + m) + 1) (nI (q + 1))) (ai_up MM4 31 (4 * (12 * k + m) + q) (nI w)) N4 from g8) (by rw [w2]; exact fi_m1 (by omega)) (by rw [w2]; exact fp_m2 (by omega))
          have hm6 : fp_Fm k MM0 MM6 := (hm4.u2 (r := 31) (by decide) (show 48 * k ≤ 4 * (12 * k + m) + q by omega) _).ag g11
          have e26 : MM6 26 (12 * k + m) = nI q := by
            rw [show MM6 26 = MM 26 from (g11.1 26 (by decide)).trans ((g7.1 26 (by decide)).trans (g3.1 26 (by decide)))]
            exact t2
          have ev : nI (1000 + w) - 1000 = nI w := by
            rw [show (1000 : Int32) = nI 1000 from rfl, fi_sub (by omega), Nat.add_sub_cancel_left]
          refine Or.inr ⟨hq, i + 1 + 1 + 1, _, ai_up MM6 26 (12 * k + m) (nI (q + 1)), N6, ?_, ?_, g12, ?_, ?_, hm6.u1 (by decide) (by omega) _, rfl⟩
          · rw [if_neg (fun z => fn_b0.mp z hnl), bq_64_7, g8.1.2.2, w2, ev, fw_76 (M := fp_adv b n (i + 1) (fp_adv b n i M)) (p := 12 * k + m) (q := q) b1 t1 (by omega) hq, fb_n, bq_64_8, g9, fb_n, bq_64_9, fb_s, bq_63_8, if_neg (by decide)]
          · rw [if_pos h3, bq_171_12, i5, cond_true, nI_clamp (by omega), w3, g10, fb_n, bq_171_13, ip, cond_true, cond_true, nI_clamp (by omega), e26, nI_1]
          · have hVt := fp_V.test hV hq (x := fp_tk b n i) (y := fp_tk b n (i + 1)) (z := nI w) n3
            unfold fp_Vm
            rw [show (ai_up MM6 26 (12 * k + m) (nI (q + 1))) 25 = MM 25 from (g11.1 25 (by decide)).trans ((g7.1 25 (by decide)).trans (g3.1 25 (by decide))), show (ai_up MM6 26 (12 * k + m) (nI (q + 1))) 26 = upd (MM 26) (12 * k + m) (nI (q + 1)) from by
              show upd (MM6 26) _ _ = _
              rw [show MM6 26 = MM 26 from (g11.1 26 (by decide)).trans ((g7.1 26 (by decide)).trans (g3.1 26 (by decide)))], show (ai_up MM6 26 (12 * k + m) (nI (q + 1))) 27 = MM 27 from (g11.1 27 (by decide)).trans ((g7.1 27 (by decide)).trans (g3.1 27 (by decide))), show (ai_up MM6 26 (12 * k + m) (nI (q + 1))) 28 = MM 28 from (g11.1 28 (by decide)).trans ((g7.1 28 (by decide)).trans (g3.1 28 (by decide))), show (ai_up MM6 26 (12 * k + m) (nI (q + 1))) 29 = upd (MM 29) (4 * (12 * k + m) + q) (fp_tk b n i) from (g11.1 29 (by decide)).trans ((g7.1 29 (by decide)).trans (g3.1 29 (by decide))), show (ai_up MM6 26 (12 * k + m) (nI (q + 1))) 30 = upd (MM 30) (4 * (12 * k + m) + q) (fp_tk b n (i + 1)) from by
              refine ((g11.1 30 (by decide)).trans (g7.1 30 (by decide))).trans ?_
              show upd (MM2 30) _ _ = _
              rw [show MM2 30 = MM 30 from g3.1 30 (by decide)], show (ai_up MM6 26 (12 * k + m) (nI (q + 1))) 31 = upd (MM 31) (4 * (12 * k + m) + q) (nI w) from by
              refine (g11.1 31 (by decide)).trans ?_
              show upd (MM4 31) _ _ = _
              rw [show MM4 31 = MM 31 from (g7.1 31 (by decide)).trans (g3.1 31 (by decide))], show (ai_up MM6 26 (12 * k + m) (nI (q + 1))) 32 = MM 32 from (g11.1 32 (by decide)).trans ((g7.1 32 (by decide)).trans (g3.1 32 (by decide))), show (ai_up MM6 26 (12 * k + m) (nI (q + 1))) 33 = MM 33 from (g11.1 33 (by decide)).trans ((g7.1 33 (by decide)).trans (g3.1 33 (by decide)))]
            exact hVt
          · exact (((((hc4.u26 (by omega) _).u26 (by omega) _).u26 (by omega) _).u26 (by omega) _).u32 3 _).u32 4 _
        · refine Or.inl ⟨_, _, N4, ?_, ?_, g8.fail hc4 hm4 1⟩
          · rw [if_pos (fn_b0.mpr (fun z => z w1)), bq_71_0, fb_s, bq_64_6, if_pos (Or.inl rfl), fb_s, bq_63_8, if_pos rfl]
          · rw [if_neg h3, bq_161_0, fb_s, bq_171_11]
            rfl
      by_cases h60 : fp_tk b n (i + 1) = 60
      · rw [if_pos h60, if_neg (fun z => fn_b0.mp z h60)]
        exact go (Or.inl h60)
      · rw [if_neg h60, if_pos (fn_b0.mpr h60), s62, fb_s, bq_171_6]
        by_cases h62 : fp_tk b n (i + 1) = 62
        · rw [if_pos h62, if_neg (fun z => fn_b0.mp z h62)]
          exact go (Or.inr (Or.inl h62))
        · rw [if_neg h62, if_pos (fn_b0.mpr h62), s61, fb_s, bq_171_7]
          by_cases h61 : fp_tk b n (i + 1) = 61
          · rw [if_pos h61, if_neg (fun z => fn_b0.mp z h61)]
            exact go (Or.inr (Or.inr h61))
          · refine Or.inl ⟨_, _, N2, ?_, ?_, g4.fail hc2 hm2 1⟩
            · rw [if_neg h61, bq_71_0, fb_s, bq_64_2, if_pos (Or.inl rfl), fb_s, bq_63_8, if_pos rfl]
            · rw [if_pos (fn_b0.mpr h61), bq_161_0, fb_s, bq_171_8]
              rfl
    · have hq4 : q = 4 := by omega
      subst hq4
      refine Or.inl ⟨_, _, N, ?_, ?_, hJ.fail hc hm 3⟩
      · rw [if_neg (by decide), bq_71_0, fb_s, bq_63_6, if_pos (Or.inl rfl)]
      · rw [if_pos (show nI 4 = 4 from rfl), bq_161_0, fb_s, bq_171_2]
        rfl
  · refine Or.inl ⟨_, _, N, ?_, ?_, hJ.fail hc hm (if fp_tk b n i = 256 then 2 else 1)⟩
    · rw [if_pos (fn_b0.mpr hn), fw_70, hJ.1.2.2, fb_s, bq_63_4, if_pos (Or.inl rfl)]
    · rw [if_neg hn, fb_r]
set_option maxHeartbeats 4000000 in
theorem fp_term {d e : Nat} {al am : Nat × Nat} {kl : Nat} {b : Nat → Nat} {n L k m q u i : Nat} {M0 MM0 M MM : Nat → Nat → Int32} {N : Nat → Nat → Int64} (hJ : fp_J b n L k i M MM N) (hV : fp_Vm k m q u true M MM) (hc : fp_Fc k M0 M) (hm : fp_Fm k MM0 MM) {v2 v3 : Value} : (∃ (M' MM' : Nat → Nat → Int32) (N' : Nat → Nat → Int64), ai_run (d + 4) 65 2 [.ref 32, .int (nI u)] [] (hC al kl M) = some (.inl (some (.int 0)), hC al kl M') ∧ ai_run (e + 4) 172 0 [.ref 0, .int (nI (12 * k + m)), v2, v3] [] (hM am MM N) = some (.inr 22, hM am MM' N') ∧ fp_X b n L k M0 MM0 M' MM') ∨ (u < 4 ∧ ∃ (i' : Nat) (M' MM' : Nat → Nat → Int32) (N' : Nat → Nat → Int64), ai_run (d + 4) 65 2 [.ref 32, .int (nI u)] [] (hC al kl M) = ai_run (d + 4) 65 10 [.ref 32, .int (nI u)] [] (hC al kl M') ∧ ai_run (e + 4) 172 0 [.ref 0, .int (nI (12 * k + m)), v2, v3] [] (hM am MM N) = some (.inl none, hM am MM' N') ∧ fp_J b n L k i' M' MM' N' ∧ fp_Vm k m q (u + 1) true M' MM' ∧ fp_Fc k M0 M' ∧ fp_Fm k MM0 MM' ∧ M' 32 2 = M 32 2) := by
  obtain ⟨⟨a1, a2, a3, a4⟩, ⟨b1, b2, b3⟩, -, ⟨t1, t2, t3⟩, -, -⟩ := id hV
  have ip : ai_in (nI (12 * k + m)) 132 = true := by rw [fi_in (by omega)]; exact decide_eq_true (by omega)
  rw [bq_65_2, fw_68, fb_s, bq_65_3, bq_172_0, hJ.1.2.2]
  rcases hJ.2.2.2.2.1.num with ⟨h3, w, w1, w2, w3⟩ | ⟨h3, w1⟩
  · have hnl : ¬ fp_tk b n i < 1000 := by rw [w2]; exact fj_ngt (c := 1000) (n := 1000) rfl (by omega) (by omega)
    have n1 : fp_tk b n i ≠ -1 := by rw [w2]; exact fi_m1 (by omega)
    have n2 : fp_tk b n i ≠ -2 := by rw [w2]; exact fp_m2 (by omega)
    rw [if_neg (fun z => fn_b0.mp z hnl), if_pos h3, bq_65_6, bq_172_2, ip, cond_true, nI_clamp (by omega), t2]
    by_cases hu : u < 4
    · have i5 : ai_in (nI (4 * (12 * k + m) + u)) 528 = true := by rw [fi_in (by omega)]; exact decide_eq_true (by omega)
      have ev : nI (1000 + w) - 1000 = nI w := by
        rw [show (1000 : Int32) = nI 1000 from rfl, fi_sub (by omega), Nat.add_sub_cancel_left]
      have hw : 0 ≤ nI w ∧ nI w ≤ 999 := ⟨nI_pos' (by omega), fj_ge (c := 999) (n := 999) rfl w1 (by omega)⟩
      rw [if_pos (fj_gt (c := 4) (n := 4) rfl hu (by omega)), if_neg (fj_ne (c := 4) (n := 4) rfl (by omega) (by omega) (by omega)), bq_65_8, bq_66_0, fw_68, fb_s, bq_66_1, hJ.1.2.2, if_neg (fun z => fn_b0.mp z hnl), bq_172_4, ip, cond_true, nI_clamp (by omega), t2, if_pos h3, w3, show (4 : Int32) = nI 4 from rfl, pk_mul, nI_add, bq_172_6, i5, cond_true, cond_true, nI_clamp (by omega), w2, ev]
      obtain ⟨g1, MM2, N2, g2, g3, g4⟩ := fp_go (d := d + 1) (e := e + 2) (al := al) (am := am) (kl := kl) (v1 := ai_un) (v2 := ai_un) (show fp_J b n L k i M (ai_up (ai_up MM 33 (4 * (12 * k + m) + u) (nI w)) 32 (4 * (12 * k + m) + u) (-1)) N from hJ) n1 n2
      have hm2 : fp_Fm k MM0 MM2 := ((hm.u2 (r := 33) (by decide) (show 48 * k ≤ 4 * (12 * k + m) + u by omega) (nI w)).u2 (r := 32) (by decide) (show 48 * k ≤ 4 * (12 * k + m) + u by omega) (-1)).ag g3
      have hc2 : fp_Fc k M0 (fp_adv b n i M) := (hc.u32 3 _).u32 4 _
      have s42 := fw_168 (d := e + 3) (al := am) (x := 42) g4.2.2.2.2.1 (c := 42) (by decide) rfl
      have e27 : MM2 27 (12 * k + m) = nI u := by rw [show MM2 27 = MM 27 from g3.1 27 (by decide)]; exact t2
      rw [g1, fb_n, bq_66_2, g4.1.2.2, g2, fb_n, bq_172_7, if_pos rfl, s42, fb_s, bq_172_8]
      by_cases h42 : fp_tk b n (i + 1) = 42
      · obtain ⟨g5, MM4, N4, g6, g7, g8⟩ := fp_go (d := d + 1) (e := e + 2) (al := al) (am := am) (kl := kl) (v1 := ai_un) (v2 := ai_un) g4 (by rw [h42]; decide) (by rw [h42]; decide)
        have hm4 : fp_Fm k MM0 MM4 := hm2.ag g7
        have hc4 : fp_Fc k M0 (fp_adv b n (i + 1) (fp_adv b n i M)) := (hc2.u32 3 _).u32 4 _
        rw [if_pos h42, if_neg (fun z => fn_b0.mp z h42), bq_66_4, g5, fb_n, bq_66_5, fw_69, fb_s, bq_66_6, g8.1.2.2, g6, fb_n, bq_172_9, fw_169 g8.2.2.2.2.1]
        by_cases hn : 0 ≤ fp_tk b n (i + 1 + 1) ∧ fp_tk b n (i + 1 + 1) ≤ 5
        · obtain ⟨m1, m2, cc, c1, c2⟩ := fp_nm hn
          obtain ⟨g9, MM6, N6, g10, g11, g12⟩ := fp_go (d := d + 1) (e := e + 2) (al := al) (am := am) (kl := kl) (v1 := ai_un) (v2 := ai_un) (show fp_J b n L k (i + 1 + 1) (ai_up (ai_up (ai_up (fp_adv b n (i + 1) (fp_adv b n i M)) 26 (23 * (12 * k + m) + 15 + 2 * u) (nI w)) 26 (23 * (12 * k + m) + 15 + 2 * u + 1) (fp_tk b n (i + 1 + 1))) 26 (23 * (12 * k + m) + 2) (nI (u + 1))) (ai_up MM4 32 (4 * (12 * k + m) + u) (fp_tk b n (i + 1 + 1))) N4 from g8) m1 m2
          have hm6 : fp_Fm k MM0 MM6 := (hm4.u2 (r := 32) (by decide) (show 48 * k ≤ 4 * (12 * k + m) + u by omega) _).ag g11
          have e27' : MM6 27 (12 * k + m) = nI u := by
            rw [show MM6 27 = MM 27 from (g11.1 27 (by decide)).trans ((g7.1 27 (by decide)).trans (g3.1 27 (by decide)))]
            exact t2
          refine Or.inr ⟨hu, i + 1 + 1 + 1, _, ai_up MM6 27 (12 * k + m) (nI (u + 1)), N6, ?_, ?_, g12, ?_, ?_, hm6.u1 (by decide) (by omega) _, rfl⟩
          · rw [if_neg (fun z => fn_b0.mp z hn), bq_66_8, g8.1.2.2, fw_77 (M := fp_adv b n (i + 1) (fp_adv b n i M)) (p := 12 * k + m) (u := u) b1 t1 (by omega) hu, fb_n, bq_66_9, g9, fb_n, bq_66_10, fb_s, bq_65_9, if_neg (by decide)]
          · rw [if_pos hn, fb_s, bq_172_10, i5, cond_true, nI_clamp (by omega), g10, fb_n, bq_172_11, ip, cond_true, cond_true, nI_clamp (by omega), e27', nI_1]
          · have hVt := fp_V.term hV hu (x := nI w) (y := fp_tk b n (i + 1 + 1)) (z := fp_tk b n (i + 1 + 1)) hw (Or.inr ⟨cc, c1, c2, c2⟩) (s32' := MM6 32) (s33' := MM6 33) (by
              have e32 : MM6 32 = upd (upd (MM 32) (4 * (12 * k + m) + u) (-1)) (4 * (12 * k + m) + u) (fp_tk b n (i + 1 + 1)) := by
                refine (g11.1 32 (by decide)).trans ?_
                show upd (MM4 32) _ _ = _
                rw [show MM4 32 = upd (MM 32) (4 * (12 * k + m) + u) (-1) from (g7.1 32 (by decide)).trans (g3.1 32 (by decide))]
              rw [e32]
              exact ⟨pk_us, fun j hj => by rw [pk_un hj, pk_un hj]⟩) (by
              have e33 : MM6 33 = upd (MM 33) (4 * (12 * k + m) + u) (nI w) := (g11.1 33 (by decide)).trans ((g7.1 33 (by decide)).trans (g3.1 33 (by decide)))
              rw [e33]
              exact ⟨pk_us, fun j hj => pk_un hj⟩)
            unfold fp_Vm
            rw [show (ai_up MM6 27 (12 * k + m) (nI (u + 1))) 25 = MM 25 from (g11.1 25 (by decide)).trans ((g7.1 25 (by decide)).trans (g3.1 25 (by decide))), show (ai_up MM6 27 (12 * k + m) (nI (u + 1))) 26 = MM 26 from (g11.1 26 (by decide)).trans ((g7.1 26 (by decide)).trans (g3.1 26 (by decide))), show (ai_up MM6 27 (12 * k + m) (nI (u + 1))) 27 = upd (MM 27) (12 * k + m) (nI (u + 1)) from by
              show upd (MM6 27) _ _ = _
              rw [show MM6 27 = MM 27 from (g11.1 27 (by decide)).trans ((g7.1 27 (by decide)).trans (g3.1 27 (by decide)))], show (ai_up MM6 27 (12 * k + m) (nI (u + 1))) 28 = MM 28 from (g11.1 28 (by decide)).trans ((g7.1 28 (by decide)).trans (g3.1 28 (by decide))), show (ai_up MM6 27 (12 * k + m) (nI (u + 1))) 29 = MM 29 from (g11.1 29 (by decide)).trans ((g7.1 29 (by decide)).trans (g3.1 29 (by decide))), show (ai_up MM6 27 (12 * k + m) (nI (u + 1))) 30 = MM 30 from (g11.1 30 (by decide)).trans ((g7.1 30 (by decide)).trans (g3.1 30 (by decide))), show (ai_up MM6 27 (12 * k + m) (nI (u + 1))) 31 = MM 31 from (g11.1 31 (by decide)).trans ((g7.1 31 (by decide)).trans (g3.1 31 (by decide)))]
            exact hVt
          · exact ((((hc4.u26 (by omega) _).u26 (by omega) _).u26 (by omega) _).u32 3 _).u32 4 _
        · refine Or.inl ⟨_, _, N4, ?_, ?_, g8.fail hc4 hm4 (if fp_tk b n (i + 1 + 1) = 256 then 2 else 1)⟩
          · rw [if_pos (fn_b0.mpr hn), fw_70, g8.1.2.2, fb_s, bq_66_7, if_pos (Or.inl rfl), fb_s, bq_65_9, if_pos rfl]
          · rw [if_neg hn, fb_r]
      · refine Or.inr ⟨hu, i + 1, ai_up (ai_up (ai_up (fp_adv b n i M) 26 (23 * (12 * k + m) + 15 + 2 * u) (nI w)) 26 (23 * (12 * k + m) + 15 + 2 * u + 1) 6) 26 (23 * (12 * k + m) + 2) (nI (u + 1)), ai_up MM2 27 (12 * k + m) (nI (u + 1)), N2, ?_, ?_, g4, ?_, ?_, hm2.u1 (by decide) (by omega) _, rfl⟩
        · rw [if_neg h42, fw_77 (M := fp_adv b n i M) (p := 12 * k + m) (u := u) b1 t1 (by omega) hu, fb_n, bq_66_3, fb_s, bq_65_9, if_neg (by decide)]
        · rw [if_pos (fn_b0.mpr h42), bq_172_11, ip, cond_true, cond_true, nI_clamp (by omega), e27, nI_1]
        · have hVt := fp_V.term hV hu (x := nI w) (y := 6) (z := -1) hw (Or.inl ⟨rfl, rfl⟩) (s32' := MM2 32) (s33' := MM2 33) (by
            rw [show MM2 32 = upd (MM 32) (4 * (12 * k + m) + u) (-1) from g3.1 32 (by decide)]
            exact ⟨pk_us, fun j hj => pk_un hj⟩) (by
            rw [show MM2 33 = upd (MM 33) (4 * (12 * k + m) + u) (nI w) from g3.1 33 (by decide)]
            exact ⟨pk_us, fun j hj => pk_un hj⟩)
          unfold fp_Vm
          rw [show (ai_up MM2 27 (12 * k + m) (nI (u + 1))) 25 = MM 25 from g3.1 25 (by decide), show (ai_up MM2 27 (12 * k + m) (nI (u + 1))) 26 = MM 26 from g3.1 26 (by decide), show (ai_up MM2 27 (12 * k + m) (nI (u + 1))) 27 = upd (MM 27) (12 * k + m) (nI (u + 1)) from by
            show upd (MM2 27) _ _ = _
            rw [show MM2 27 = MM 27 from g3.1 27 (by decide)], show (ai_up MM2 27 (12 * k + m) (nI (u + 1))) 28 = MM 28 from g3.1 28 (by decide), show (ai_up MM2 27 (12 * k + m) (nI (u + 1))) 29 = MM 29 from g3.1 29 (by decide), show (ai_up MM2 27 (12 * k + m) (nI (u + 1))) 30 = MM 30 from g3.1 30 (by decide), show (ai_up MM2 27 (12 * k + m) (nI (u + 1))) 31 = MM 31 from g3.1 31 (by decide)]
          exact hVt
        · exact ((hc2.u26 (by omega) _).u26 (by omega) _).u26 (by omega) _
    · have hu4 : u = 4 := by omega
      subst hu4
      refine Or.inl ⟨_, _, N, ?_, ?_, hJ.fail hc hm 3⟩
      · rw [if_neg (by decide), bq_71_0, fb_s, bq_65_7, if_pos (Or.inl rfl)]
      · rw [if_pos (show nI 4 = 4 from rfl), bq_161_0, fb_s, bq_172_3]
        rfl
  · rw [if_pos (fn_b0.mpr (fun z => z w1)), fw_69, fb_s, bq_65_4, hJ.1.2.2, if_neg h3, bq_172_1, fw_169 hJ.2.2.2.2.1]
    by_cases hn : 0 ≤ fp_tk b n i ∧ fp_tk b n i ≤ 5
    · obtain ⟨n1, n2, cc, c1, c2⟩ := fp_nm hn
      rw [if_neg (fun z => fn_b0.mp z hn), if_pos hn, fb_s, bq_65_6, bq_172_2, ip, cond_true, nI_clamp (by omega), t2]
      by_cases hu : u < 4
      · have i5 : ai_in (nI (4 * (12 * k + m) + u)) 528 = true := by rw [fi_in (by omega)]; exact decide_eq_true (by omega)
        obtain ⟨g9, MM6, N6, g10, g11, g12⟩ := fp_go (d := d + 1) (e := e + 2) (al := al) (am := am) (kl := kl) (v1 := ai_un) (v2 := ai_un) (show fp_J b n L k i (ai_up (ai_up (ai_up M 26 (23 * (12 * k + m) + 15 + 2 * u) 1) 26 (23 * (12 * k + m) + 15 + 2 * u + 1) (fp_tk b n i)) 26 (23 * (12 * k + m) + 2) (nI (u + 1))) (ai_up (ai_up MM 33 (4 * (12 * k + m) + u) 1) 32 (4 * (12 * k + m) + u) (fp_tk b n i)) N from hJ) n1 n2
        have hm6 : fp_Fm k MM0 MM6 := ((hm.u2 (r := 33) (by decide) (show 48 * k ≤ 4 * (12 * k + m) + u by omega) 1).u2 (r := 32) (by decide) (show 48 * k ≤ 4 * (12 * k + m) + u by omega) _).ag g11
        have e27' : MM6 27 (12 * k + m) = nI u := by rw [show MM6 27 = MM 27 from g11.1 27 (by decide)]; exact t2
        rw [if_pos (fj_gt (c := 4) (n := 4) rfl hu (by omega)), if_neg (fj_ne (c := 4) (n := 4) rfl (by omega) (by omega) (by omega)), bq_65_8, bq_66_0, fw_68, fb_s, bq_66_1, hJ.1.2.2, if_pos (fn_b0.mpr (fun z => z w1)), bq_66_8, hJ.1.2.2, bq_172_4, ip, cond_true, nI_clamp (by omega), t2, if_neg h3, show (4 : Int32) = nI 4 from rfl, pk_mul, nI_add, bq_172_5, bq_172_6, i5, cond_true, cond_true, nI_clamp (by omega)]
        refine Or.inr ⟨hu, i + 1, _, ai_up MM6 27 (12 * k + m) (nI (u + 1)), N6, ?_, ?_, g12, ?_, ?_, hm6.u1 (by decide) (by omega) _, rfl⟩
        · rw [fw_77 (M := M) (p := 12 * k + m) (u := u) b1 t1 (by omega) hu, fb_n, bq_66_9, g9, fb_n, bq_66_10, fb_s, bq_65_9, if_neg (by decide)]
        · rw [g10, fb_n, bq_172_7, if_neg n1, bq_172_11, ip, cond_true, cond_true, nI_clamp (by omega), e27', nI_1]
        · have hVt := fp_V.term hV hu (x := 1) (y := fp_tk b n i) (z := fp_tk b n i) (by decide) (Or.inr ⟨cc, c1, c2, c2⟩) (s32' := MM6 32) (s33' := MM6 33) (by
            rw [show MM6 32 = upd (MM 32) (4 * (12 * k + m) + u) (fp_tk b n i) from g11.1 32 (by decide)]
            exact ⟨pk_us, fun j hj => pk_un hj⟩) (by
            rw [show MM6 33 = upd (MM 33) (4 * (12 * k + m) + u) 1 from g11.1 33 (by decide)]
            exact ⟨pk_us, fun j hj => pk_un hj⟩)
          unfold fp_Vm
          rw [show (ai_up MM6 27 (12 * k + m) (nI (u + 1))) 25 = MM 25 from g11.1 25 (by decide), show (ai_up MM6 27 (12 * k + m) (nI (u + 1))) 26 = MM 26 from g11.1 26 (by decide), show (ai_up MM6 27 (12 * k + m) (nI (u + 1))) 27 = upd (MM 27) (12 * k + m) (nI (u + 1)) from by
            show upd (MM6 27) _ _ = _
            rw [show MM6 27 = MM 27 from g11.1 27 (by decide)], show (ai_up MM6 27 (12 * k + m) (nI (u + 1))) 28 = MM 28 from g11.1 28 (by decide), show (ai_up MM6 27 (12 * k + m) (nI (u + 1))) 29 = MM 29 from g11.1 29 (by decide), show (ai_up MM6 27 (12 * k + m) (nI (u + 1))) 30 = MM 30 from g11.1 30 (by decide), show (ai_up MM6 27 (12 * k + m) (nI (u + 1))) 31 = MM 31 from g11.1 31 (by decide)]
          exact hVt
        · exact ((((hc.u26 (by omega) _).u26 (by omega) _).u26 (by omega) _).u32 3 _).u32 4 _
      · have hu4 : u = 4 := by omega
        subst hu4
        refine Or.inl ⟨_, _, N, ?_, ?_, hJ.fail hc hm 3⟩
        · rw [if_neg (by decide), bq_71_0, fb_s, bq_65_7, if_pos (Or.inl rfl)]
        · rw [if_pos (show nI 4 = 4 from rfl), bq_161_0, fb_s, bq_172_3]
          rfl
    · refine Or.inl ⟨_, _, N, ?_, ?_, hJ.fail hc hm (if fp_tk b n i = 256 then 2 else 1)⟩
      · rw [if_pos (fn_b0.mpr hn), fw_70, hJ.1.2.2, fb_s, bq_65_5, if_pos (Or.inl rfl)]
      · rw [if_neg hn, fb_r]
