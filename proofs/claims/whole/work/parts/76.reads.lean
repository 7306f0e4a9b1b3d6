/-! ordinances: rules, and the whole text -/
theorem fp_tests {d e : Nat} {al am : Nat × Nat} {kl : Nat} {b : Nat → Nat} {n L k m : Nat} {M0 MM0 : Nat → Nat → Int32} {f0 : Int32} : ∀ (r q i : Nat) (M MM : Nat → Nat → Int32) (N : Nat → Nat → Int64) (x4 : Int32) (v2 v5 : Value), q + r = 4 → fp_J b n L k i M MM N → fp_tk b n i ≠ -1 → fp_tk b n i ≠ -2 → fp_Vm k m q 0 false M MM → fp_Fc k M0 M → fp_Fm k MM0 MM → M 32 2 = f0 → x4 ≠ 0 → (∃ (M' MM' : Nat → Nat → Int32) (N' : Nat → Nat → Int64), ai_run (d + 4) 63 1 [.ref 32, .int (nI q)] [] (hC al kl M) = some (.inl (some (.int 0)), hC al kl M') ∧ ai_run (e + 5) 170 11 [.ref 0, .int (nI k), v2, .int (nI (12 * k + m)), .int x4, v5] [] (hM am MM N) = some (.inr 22, hM am MM' N') ∧ fp_X b n L k M0 MM0 M' MM') ∨ (∃ (i' q' : Nat) (M' MM' : Nat → Nat → Int32) (N' : Nat → Nat → Int64), ai_run (d + 4) 63 1 [.ref 32, .int (nI q)] [] (hC al kl M) = some (.inl (some (.int 1)), hC al kl M') ∧ ai_run (e + 5) 170 11 [.ref 0, .int (nI k), v2, .int (nI (12 * k + m)), .int x4, v5] [] (hM am MM N) = ai_run (e + 5) 170 15 [.ref 0, .int (nI k), ai_un, .int (nI (12 * k + m)), .int 0, ai_un] [] (hM am MM' N') ∧ fp_J b n L k i' M' MM' N' ∧ fp_Vm k m q' 0 false M' MM' ∧ fp_Fc k M0 M' ∧ fp_Fm k MM0 MM' ∧ M' 32 2 = f0) := by
  intro r
  induction r with
  | zero =>
    intro q i M MM N x4 v2 v5 hq hJ n1 n2 hV hc hm h2 hx
    obtain ⟨g1, MM2, N2, g2, g3, g4⟩ := fp_go (d := d + 2) (e := e + 3) (al := al) (am := am) (kl := kl) (v1 := ai_un) (v2 := ai_un) hJ n1 n2
    rw [bq_63_1, if_neg (fj_nlt (c := 4) (n := 4) rfl (by omega) (by omega)), g1, fb_n, bq_170_11, if_neg hx, g2, fb_n, bq_170_12]
    rcases fp_test (d := d) (e := e) (al := al) (am := am) (kl := kl) (M0 := M0) (MM0 := MM0) (v2 := ai_un) (v3 := ai_un) g4 (hV.ag g3) ((hc.u32 3 _).u32 4 _) (hm.ag g3) with ⟨M', MM', N', a1, a2, a3⟩ | ⟨a0, -⟩
    · exact Or.inl ⟨M', MM', N', a1, by rw [a2, fb_r], a3⟩
    · omega
  | succ r ih =>
    intro q i M MM N x4 v2 v5 hq hJ n1 n2 hV hc hm h2 hx
    obtain ⟨g1, MM2, N2, g2, g3, g4⟩ := fp_go (d := d + 2) (e := e + 3) (al := al) (am := am) (kl := kl) (v1 := ai_un) (v2 := ai_un) hJ n1 n2
    rw [bq_63_1, if_neg (fj_nlt (c := 4) (n := 4) rfl (by omega) (by omega)), g1, fb_n, bq_170_11, if_neg hx, g2, fb_n, bq_170_12]
    rcases fp_test (d := d) (e := e) (al := al) (am := am) (kl := kl) (M0 := M0) (MM0 := MM0) (v2 := ai_un) (v3 := ai_un) g4 (hV.ag g3) ((hc.u32 3 _).u32 4 _) (hm.ag g3) with ⟨M', MM', N', a1, a2, a3⟩ | ⟨a0, i', M', MM', N', a1, a2, a3, a4, a5, a6, a7⟩
    · exact Or.inl ⟨M', MM', N', a1, by rw [a2, fb_r], a3⟩
    · have w7 := fw_167 (d := e + 2) (x := 13) (al := am) a3.2.2.2.2.1 (j := 7) (by omega) ai_strs_m.2.2.2.1
      have e2 : M' 32 2 = f0 := a7.trans h2
      rw [a1, bq_63_9, a3.1.2.2, a2, fb_n, bq_170_13, w7, fb_s, bq_170_14]
      by_cases c : fp_tk b n i' = 258
      · rw [if_pos c, bq_63_10, nI_1]
        exact ih (q + 1) i' M' MM' N' _ _ _ (by omega) a3 (by rw [c]; decide) (by rw [c]; decide) a4 a5 a6 e2 (fun z => fn_b0.mp z c)
      · refine Or.inr ⟨i', q + 1, M', MM', N', by rw [if_neg c], ?_, a3, a4, a5, a6, e2⟩
        rw [show fn_b (fp_tk b n i' = fp_cd 7) = 0 from fn_b0.mpr c, bq_170_11, if_pos rfl]
theorem fp_terms {d e : Nat} {al am : Nat × Nat} {kl : Nat} {b : Nat → Nat} {n L k m q : Nat} {M0 MM0 : Nat → Nat → Int32} {f0 : Int32} : ∀ (r u i : Nat) (M MM : Nat → Nat → Int32) (N : Nat → Nat → Int64) (x5 : Int32) (v2 v4 : Value), u + r = 4 → fp_J b n L k i M MM N → fp_tk b n i ≠ -1 → fp_tk b n i ≠ -2 → fp_Vm k m q u true M MM → fp_Fc k M0 M → fp_Fm k MM0 MM → M 32 2 = f0 → x5 ≠ 0 → (∃ (M' MM' : Nat → Nat → Int32) (N' : Nat → Nat → Int64), ai_run (d + 4) 65 1 [.ref 32, .int (nI u)] [] (hC al kl M) = some (.inl (some (.int 0)), hC al kl M') ∧ ai_run (e + 5) 170 21 [.ref 0, .int (nI k), v2, .int (nI (12 * k + m)), v4, .int x5] [] (hM am MM N) = some (.inr 22, hM am MM' N') ∧ fp_X b n L k M0 MM0 M' MM') ∨ (∃ (i' u' : Nat) (M' MM' : Nat → Nat → Int32) (N' : Nat → Nat → Int64), ai_run (d + 4) 65 1 [.ref 32, .int (nI u)] [] (hC al kl M) = some (.inl (some (.int 1)), hC al kl M') ∧ ai_run (e + 5) 170 21 [.ref 0, .int (nI k), v2, .int (nI (12 * k + m)), v4, .int x5] [] (hM am MM N) = ai_run (e + 5) 170 25 [.ref 0, .int (nI k), ai_un, .int (nI (12 * k + m)), ai_un, .int 0] [] (hM am MM' N') ∧ fp_J b n L k i' M' MM' N' ∧ fp_Vm k m q u' true M' MM' ∧ fp_Fc k M0 M' ∧ fp_Fm k MM0 MM' ∧ M' 32 2 = f0) := by
  intro r
  induction r with
  | zero =>
    intro u i M MM N x5 v2 v4 hq hJ n1 n2 hV hc hm h2 hx
    obtain ⟨g1, MM2, N2, g2, g3, g4⟩ := fp_go (d := d + 2) (e := e + 3) (al := al) (am := am) (kl := kl) (v1 := ai_un) (v2 := ai_un) hJ n1 n2
    rw [bq_65_1, if_neg (fj_nlt (c := 4) (n := 4) rfl (by omega) (by omega)), g1, fb_n, bq_170_21, if_neg hx, g2, fb_n, bq_170_22]
    rcases fp_term (d := d) (e := e) (al := al) (am := am) (kl := kl) (M0 := M0) (MM0 := MM0) (v2 := ai_un) (v3 := ai_un) g4 (hV.ag g3) ((hc.u32 3 _).u32 4 _) (hm.ag g3) with ⟨M', MM', N', a1, a2, a3⟩ | ⟨a0, -⟩
    · exact Or.inl ⟨M', MM', N', a1, by rw [a2, fb_r], a3⟩
    · omega
  | succ r ih =>
    intro u i M MM N x5 v2 v4 hq hJ n1 n2 hV hc hm h2 hx
    obtain ⟨g1, MM2, N2, g2, g3, g4⟩ := fp_go (d := d + 2) (e := e + 3) (al := al) (am := am) (kl := kl) (v1 := ai_un) (v2 := ai_un) hJ n1 n2
    rw [bq_65_1, if_neg (fj_nlt (c := 4) (n := 4) rfl (by omega) (by omega)), g1, fb_n, bq_170_21, if_neg hx, g2, fb_n, bq_170_22]
    rcases fp_term (d := d) (e := e) (al := al) (am := am) (kl := kl) (M0 := M0) (MM0 := MM0) (v2 := ai_un) (v3 := ai_un) g4 (hV.ag g3) ((hc.u32 3 _).u32 4 _) (hm.ag g3) with ⟨M', MM', N', a1, a2, a3⟩ | ⟨a0, i', M', MM', N', a1, a2, a3, a4, a5, a6, a7⟩
    · exact Or.inl ⟨M', MM', N', a1, by rw [a2, fb_r], a3⟩
    · have s43 := fw_168 (d := e + 4) (al := am) (x := 43) a3.2.2.2.2.1 (c := 43) (by decide) rfl
      have e2 : M' 32 2 = f0 := a7.trans h2
      rw [a1, bq_65_10, a3.1.2.2, a2, fb_n, bq_170_23, s43, fb_s, bq_170_24]
      by_cases c : fp_tk b n i' = 43
      · rw [if_pos c, bq_65_11, nI_1]
        exact ih (u + 1) i' M' MM' N' _ _ _ (by omega) a3 (by rw [c]; decide) (by rw [c]; decide) a4 a5 a6 e2 (fun z => fn_b0.mp z c)
      · refine Or.inr ⟨i', u + 1, M', MM', N', by rw [if_neg c], ?_, a3, a4, a5, a6, e2⟩
        rw [show fn_b (fp_tk b n i' = 43) = 0 from fn_b0.mpr c, bq_170_21, if_pos rfl]
/-- between two rules: m are read -/
def fp_Z (k m : Nat) (r25 r26 s25 s26 s27 s28 s29 s30 s31 s32 s33 : Nat → Int32) : Prop := (k ≤ 10 ∧ m ≤ 12) ∧ r25 k = nI m ∧ s25 k = nI m ∧ ∀ r, r < m → fn_ru (12 * k + r) r26 s26 s27 s28 s29 s30 s31 s32 s33
abbrev fp_Zm (k m : Nat) (M MM : Nat → Nat → Int32) : Prop := fp_Z k m (M 25) (M 26) (MM 25) (MM 26) (MM 27) (MM 28) (MM 29) (MM 30) (MM 31) (MM 32) (MM 33)
theorem fp_Z.ag {k m : Nat} {M MM MM' : Nat → Nat → Int32} (h : fp_Zm k m M MM) (hg : fp_ag MM MM') : fp_Zm k m M MM' := by
  unfold fp_Zm
  rw [hg.1 25 (by decide), hg.1 26 (by decide), hg.1 27 (by decide), hg.1 28 (by decide), hg.1 29 (by decide), hg.1 30 (by decide), hg.1 31 (by decide), hg.1 32 (by decide), hg.1 33 (by decide)]
  exact h
theorem fp_Z.start {k m : Nat} {M MM : Nat → Nat → Int32} (h : fp_Zm k m M MM) (hm : m < 12) : fp_Vm k m 0 0 false (ai_up (ai_up (ai_up (ai_up (ai_up M 23 6 (nI (23 * (12 * k + m)))) 26 (23 * (12 * k + m)) 0) 26 (23 * (12 * k + m) + 1) 0) 26 (23 * (12 * k + m) + 2) 0) 25 k (nI (m + 1))) (ai_up (ai_up MM 26 (12 * k + m) 0) 27 (12 * k + m) 0) := by
  obtain ⟨⟨z1, z2⟩, z3, z4, z5⟩ := h
  refine ⟨⟨z1, hm, by omega, by omega⟩, ⟨show upd (M 23) 6 (nI (23 * (12 * k + m))) 6 = nI (23 * (12 * k + m)) from pk_us, fu_at, z4⟩, ⟨?_, pk_us, fun j hj => absurd hj (Nat.not_lt_zero _)⟩, ⟨pk_us, pk_us, fun j hj => absurd hj (Nat.not_lt_zero _)⟩, fun z => absurd z (by decide), fun r hr => ?_⟩
  · show upd (upd (upd (M 26) _ 0) _ 0) _ 0 _ = nI 0
    rw [pk_un (by omega), pk_us]
    rfl
  · refine (z5 r hr).cg (fun j h1 h2 => ?_) (pk_un (by omega)) (pk_un (by omega)) rfl (fun j h1 h2 => ⟨rfl, rfl, rfl, rfl, rfl⟩)
    show upd (upd (upd (M 26) _ 0) _ 0) _ 0 _ = _
    rw [pk_un (by omega), pk_un (by omega), pk_un (by omega)]
theorem fp_V.kind {k m q : Nat} {M MM : Nat → Nat → Int32} (h : fp_Vm k m q 0 false M MM) {x : Int32} (hx : x = 0 ∨ x = 1) : fp_Vm k m q 0 true (ai_up M 26 (23 * (12 * k + m)) x) (ai_up MM 28 (12 * k + m) x) := by
  obtain ⟨v, w, ⟨t1, t2, t3⟩, ⟨u1, u2, u3⟩, -, rr⟩ := h
  refine ⟨v, w, ⟨?_, t2, fun j hj => ?_⟩, ⟨?_, u2, fun j hj => absurd hj (Nat.not_lt_zero _)⟩, fun _ => ⟨?_, ?_⟩, fun r hr => ?_⟩
  · show upd (M 26) _ x _ = _
    rw [pk_un (by omega)]; exact t1
  · show fp_tt (12 * k + m) j (upd (M 26) _ x) (MM 29) (MM 30) (MM 31)
    unfold fp_tt
    rw [pk_un (by omega), pk_un (by omega), pk_un (by omega)]
    exact t3 j hj
  · show upd (M 26) _ x _ = _
    rw [pk_un (by omega)]; exact u1
  · show upd (M 26) _ x _ = upd (MM 28) _ x _
    rw [pk_us, pk_us]
  · show upd (MM 28) _ x _ = 0 ∨ upd (MM 28) _ x _ = 1
    rw [pk_us]; exact hx
  · refine (rr r hr).cg (fun j h1 h2 => pk_un (by omega)) rfl rfl (pk_un (by omega)) (fun j h1 h2 => ⟨rfl, rfl, rfl, rfl, rfl⟩)
theorem fp_V.done {k m q u : Nat} {M MM : Nat → Nat → Int32} (h : fp_Vm k m q u true M MM) : fp_Zm k (m + 1) M (ai_up MM 25 k (nI (m + 1))) := by
  obtain ⟨⟨v1, v2, v3, v4⟩, ⟨w1, w2, w3⟩, ⟨t1, t2, t3⟩, ⟨u1, u2, u3⟩, kk, rr⟩ := h
  refine ⟨⟨v1, by omega⟩, w2, fu_at, fun r hr => ?_⟩
  show fn_ru (12 * k + r) (M 26) (MM 26) (MM 27) (MM 28) (MM 29) (MM 30) (MM 31) (MM 32) (MM 33)
  by_cases e : r = m
  · subst e
    exact ⟨kk rfl, ⟨q, v3, t1, t2, t3⟩, u, v4, u1, u2, u3⟩
  · exact rr r (by omega)
theorem fp_nb {p : Prop} [Decidable p] : vp_nar .boolean (fn_b p) = fn_b p ∧ (fn_b p = 0 ∨ fn_b p = 1) := by
  by_cases h : p
  · rw [show fn_b p = 1 from if_pos h]; exact ⟨by decide, Or.inr rfl⟩
  · rw [show fn_b p = 0 from if_neg h]; exact ⟨by decide, Or.inl rfl⟩
set_option maxHeartbeats 4000000 in
/-- a rule -/
theorem fp_rule {d e : Nat} {al am : Nat × Nat} {kl : Nat} {b : Nat → Nat} {n L k m i : Nat} {M0 MM0 M MM : Nat → Nat → Int32} {N : Nat → Nat → Int64} {f0 : Int32} (hJ : fp_J b n L k i M MM N) (hZ : fp_Zm k m M MM) (hc : fp_Fc k M0 M) (hm : fp_Fm k MM0 MM) (h2 : M 32 2 = f0) {x2 : Int32} (hx2 : x2 ≠ 0) {v3 v4 v5 : Value} : (∃ (M' MM' : Nat → Nat → Int32) (N' : Nat → Nat → Int64), ai_run (d + 5) 62 0 [.ref 32, .int (nI m)] [] (hC al kl M) = some (.inl (some (.int 0)), hC al kl M') ∧ ai_run (e + 5) 170 2 [.ref 0, .int (nI k), .int x2, v3, v4, v5] [] (hM am MM N) = some (.inr 22, hM am MM' N') ∧ fp_X b n L k M0 MM0 M' MM') ∨ (m < 12 ∧ ∃ (i' : Nat) (M' MM' : Nat → Nat → Int32) (N' : Nat → Nat → Int64), ai_run (d + 5) 62 0 [.ref 32, .int (nI m)] [] (hC al kl M) = some (.inl (some (.int 1)), hC al kl M') ∧ ai_run (e + 5) 170 2 [.ref 0, .int (nI k), .int x2, v3, v4, v5] [] (hM am MM N) = ai_run (e + 5) 170 26 [.ref 0, .int (nI k), ai_un, ai_un, ai_un, ai_un] [.int (fn_b (fp_tk b n i' = 59))] (hM am MM' N') ∧ fp_J b n L k i' M' MM' N' ∧ fp_Zm k (m + 1) M' MM' ∧ fp_Fc k M0 M' ∧ fp_Fm k MM0 MM' ∧ M' 32 2 = f0) := by
  obtain ⟨⟨z1, z2⟩, z3, z4, z5⟩ := id hZ
  obtain ⟨s10, s11, s12, s13, -⟩ := ai_strs_m
  have w6 : ai_run (e + 4) 167 0 [.ref 0, .retAddr 11] [] (hM am MM N) = some (.inl (some (.int (fn_b (fp_tk b n i = 257)))), hM am MM N) := fw_167 (d := e + 2) (x := 10) (al := am) hJ.2.2.2.2.1 (j := 6) (by omega) s10
  have w8 : ai_run (e + 4) 167 0 [.ref 0, .retAddr 12] [] (hM am MM N) = some (.inl (some (.int (fn_b (fp_tk b n i = 259)))), hM am MM N) := fw_167 (d := e + 2) (x := 11) (al := am) hJ.2.2.2.2.1 (j := 8) (by omega) s11
  have w9 : ai_run (e + 4) 167 0 [.ref 0, .retAddr 13] [] (hM am MM N) = some (.inl (some (.int (fn_b (fp_tk b n i = 260)))), hM am MM N) := fw_167 (d := e + 2) (x := 12) (al := am) hJ.2.2.2.2.1 (j := 9) (by omega) s12
  have ik : ai_in (nI k) 11 = true := by rw [fi_in (by omega)]; exact decide_eq_true (by omega)
  rw [bq_62_0, hJ.1.2.2, bq_170_2, if_neg hx2, w6, fb_s, bq_170_3, w8]
  -- the kind and the sum of the rule
  have sum : ∀ (i1 q1 : Nat) (M1 MM1 : Nat → Nat → Int32) (N1 : Nat → Nat → Int64) (v4 : Value), fp_J b n L k i1 M1 MM1 N1 → fp_Vm k m q1 0 false M1 MM1 → fp_Fc k M0 M1 → fp_Fm k MM0 MM1 → M1 32 2 = f0 → (∃ (M' MM' : Nat → Nat → Int32) (N' : Nat → Nat → Int64), ai_run (d + 5) 62 7 [.ref 32, ai_un] [] (hC al kl M1) = some (.inl (some (.int 0)), hC al kl M') ∧ ai_run (e + 5) 170 15 [.ref 0, .int (nI k), ai_un, .int (nI (12 * k + m)), v4, ai_un] [] (hM am MM1 N1) = some (.inr 22, hM am MM' N') ∧ fp_X b n L k M0 MM0 M' MM') ∨ (∃ (i' : Nat) (M' MM' : Nat → Nat → Int32) (N' : Nat → Nat → Int64), ai_run (d + 5) 62 7 [.ref 32, ai_un] [] (hC al kl M1) = some (.inl (some (.int 1)), hC al kl M') ∧ ai_run (e + 5) 170 15 [.ref 0, .int (nI k), ai_un, .int (nI (12 * k + m)), v4, ai_un] [] (hM am MM1 N1) = ai_run (e + 5) 170 26 [.ref 0, .int (nI k), ai_un, ai_un, ai_un, ai_un] [.int (fn_b (fp_tk b n i' = 59))] (hM am MM' N') ∧ fp_J b n L k i' M' MM' N' ∧ fp_Zm k (m + 1) M' MM' ∧ fp_Fc k M0 M' ∧ fp_Fm k MM0 MM' ∧ M' 32 2 = f0) := by
    intro i1 q1 M1 MM1 N1 v4 J1 V1 c1 m1 f1
    obtain ⟨⟨-, hm12, -, -⟩, ⟨V6, -, -⟩, -⟩ := id V1
    have ip : ai_in (nI (12 * k + m)) 132 = true := by rw [fi_in (by omega)]; exact decide_eq_true (by omega)
    have y8 : ai_run (e + 4) 167 0 [.ref 0, .retAddr 12] [] (hM am MM1 N1) = some (.inl (some (.int (fn_b (fp_tk b n i1 = 259)))), hM am MM1 N1) := fw_167 (d := e + 2) (x := 11) (al := am) J1.2.2.2.2.1 (j := 8) (by omega) s11
    have y9 : ai_run (e + 4) 167 0 [.ref 0, .retAddr 13] [] (hM am MM1 N1) = some (.inl (some (.int (fn_b (fp_tk b n i1 = 260)))), hM am MM1 N1) := fw_167 (d := e + 2) (x := 12) (al := am) J1.2.2.2.2.1 (j := 9) (by omega) s12
    rw [bq_62_7, J1.1.2.2, bq_170_15, y8, fb_s, bq_170_16, y9]
    have go : (fp_tk b n i1 = 259 ∨ fp_tk b n i1 = 260) → (∃ (M' MM' : Nat → Nat → Int32) (N' : Nat → Nat → Int64), ai_run (d + 4 + 1) 62 9 [.ref 32, ai_un] [] (hC al kl M1) = some (.inl (some (.int 0)), hC al kl M') ∧ ai_run (e + 4 + 1) 170 19 [.ref 0, .int (nI k), ai_un, .int (nI (12 * k + m)), ai_un, ai_un] [] (hM am MM1 N1) = some (.inr 22, hM am MM' N') ∧ fp_X b n L k M0 MM0 M' MM') ∨ (∃ (i' : Nat) (M' MM' : Nat → Nat → Int32) (N' : Nat → Nat → Int64), ai_run (d + 4 + 1) 62 9 [.ref 32, ai_un] [] (hC al kl M1) = some (.inl (some (.int 1)), hC al kl M') ∧ ai_run (e + 4 + 1) 170 19 [.ref 0, .int (nI k), ai_un, .int (nI (12 * k + m)), ai_un, ai_un] [] (hM am MM1 N1) = ai_run (e + 5) 170 26 [.ref 0, .int (nI k), ai_un, ai_un, ai_un, ai_un] [.int (fn_b (fp_tk b n i' = 59))] (hM am MM' N') ∧ fp_J b n L k i' M' MM' N' ∧ fp_Zm k (m + 1) M' MM' ∧ fp_Fc k M0 M' ∧ fp_Fm k MM0 MM' ∧ M' 32 2 = f0) := by
      intro hk
      have e9 : ai_run (d + 4 + 1) 62 9 [.ref 32, ai_un] [] (hC al kl M1) = ai_run (d + 4 + 1) 62 11 [.ref 32, ai_un] [.int (fn_b (fp_tk b n i1 = 260)), .ref 23] (hC al kl M1) := by
        rw [bq_62_9, J1.1.2.2]
        by_cases c : fp_tk b n i1 = 260
        · rw [if_pos c, show fn_b (fp_tk b n i1 = 260) = 1 from if_pos c]
        · rw [if_neg c, bq_62_10, show fn_b (fp_tk b n i1 = 260) = 0 from if_neg c]
      have nb := fp_nb (p := fp_tk b n i1 = 260)
      have V2 := V1.kind nb.2
      rw [e9, bq_62_11, fw_75 (p := 12 * k + m) V6 (by omega) nb.2, fb_n, bq_62_12, bq_65_0, bq_170_19, y9, fb_s, bq_170_20, ip, cond_true, nI_clamp (by omega), nb.1]
      rcases fp_terms (d := d) (e := e) (al := al) (am := am) (kl := kl) (M0 := M0) (MM0 := MM0) (f0 := f0) (q := q1) 4 0 i1 (ai_up M1 26 (23 * (12 * k + m)) (fn_b (fp_tk b n i1 = 260))) (ai_up MM1 28 (12 * k + m) (fn_b (fp_tk b n i1 = 260))) N1 1 ai_un ai_un (by omega) J1 (by rcases hk with z | z <;> rw [z] <;> decide) (by rcases hk with z | z <;> rw [z] <;> decide) V2 (c1.u26 (by omega) _) (m1.u1 (by decide) (by omega) _) f1 (by decide) with ⟨M', MM', N', a1, a2, a3⟩ | ⟨i', u', M', MM', N', a1, a2, a3, a4, a5, a6, a7⟩
      · refine Or.inl ⟨M', MM', N', ?_, a2, a3⟩
        rw [show ai_run (d + 4) 65 1 [.ref 32, .int 0] [] (hC al kl (ai_up M1 26 (23 * (12 * k + m)) (fn_b (fp_tk b n i1 = 260)))) = some (.inl (some (.int 0)), hC al kl M') from a1, fb_s, bq_62_13, if_pos (Or.inl rfl)]
      · have s59 := fw_168 (d := e + 4) (al := am) (M := ai_up MM' 25 k (nI (m + 1))) (x := 59) a3.2.2.2.2.1 (c := 59) (by decide) rfl
        refine Or.inr ⟨i', M', ai_up MM' 25 k (nI (m + 1)), N', ?_, ?_, a3, a4.done, a5, a6.u25 _, a7⟩
        · rw [show ai_run (d + 4) 65 1 [.ref 32, .int 0] [] (hC al kl (ai_up M1 26 (23 * (12 * k + m)) (fn_b (fp_tk b n i1 = 260)))) = some (.inl (some (.int 1)), hC al kl M') from a1, fb_s, bq_62_13, if_pos (Or.inr rfl)]
        · rw [a2, bq_170_25, ik, cond_true, cond_true, nI_clamp (by omega), show MM' 25 k = nI m from a4.2.1.2.2, nI_1, s59, fb_s]
    by_cases h8 : fp_tk b n i1 = 259
    · rw [if_pos h8, if_neg (fun z => fn_b0.mp z h8)]
      exact go (Or.inl h8)
    · rw [if_neg h8, if_pos (fn_b0.mpr h8), fb_s, bq_170_17]
      by_cases h9 : fp_tk b n i1 = 260
      · rw [if_pos h9, if_neg (fun z => fn_b0.mp z h9)]
        exact go (Or.inr h9)
      · refine Or.inl ⟨_, _, N1, ?_, ?_, J1.fail c1 m1 1⟩
        · rw [if_neg h9, bq_71_0, fb_s, bq_62_8, if_pos (Or.inl rfl)]
        · rw [if_pos (fn_b0.mpr h9), bq_161_0, fb_s, bq_170_18]
          rfl
  have body : (fp_tk b n i = 257 ∨ fp_tk b n i = 259 ∨ fp_tk b n i = 260) → (∃ (M' MM' : Nat → Nat → Int32) (N' : Nat → Nat → Int64), ai_run (d + 4 + 1) 62 2 [.ref 32, .int (nI m)] [] (hC al kl M) = some (.inl (some (.int 0)), hC al kl M') ∧ ai_run (e + 4 + 1) 170 7 [.ref 0, .int (nI k), ai_un, ai_un, ai_un, ai_un] [] (hM am MM N) = some (.inr 22, hM am MM' N') ∧ fp_X b n L k M0 MM0 M' MM') ∨ (m < 12 ∧ ∃ (i' : Nat) (M' MM' : Nat → Nat → Int32) (N' : Nat → Nat → Int64), ai_run (d + 4 + 1) 62 2 [.ref 32, .int (nI m)] [] (hC al kl M) = some (.inl (some (.int 1)), hC al kl M') ∧ ai_run (e + 4 + 1) 170 7 [.ref 0, .int (nI k), ai_un, ai_un, ai_un, ai_un] [] (hM am MM N) = ai_run (e + 5) 170 26 [.ref 0, .int (nI k), ai_un, ai_un, ai_un, ai_un] [.int (fn_b (fp_tk b n i' = 59))] (hM am MM' N') ∧ fp_J b n L k i' M' MM' N' ∧ fp_Zm k (m + 1) M' MM' ∧ fp_Fc k M0 M' ∧ fp_Fm k MM0 MM' ∧ M' 32 2 = f0) := by
    intro hk
    rw [bq_62_2, bq_170_7, ik, cond_true, nI_clamp (by omega), z4]
    by_cases hm12 : m < 12
    · have ip : ai_in (nI (12 * k + m)) 132 = true := by rw [fi_in (by omega)]; exact decide_eq_true (by omega)
      have V0 := hZ.start hm12
      have y6 : ai_run (e + 4) 167 0 [.ref 0, .retAddr 11] [] (hM am (ai_up (ai_up MM 26 (12 * k + m) 0) 27 (12 * k + m) 0) N) = some (.inl (some (.int (fn_b (fp_tk b n i = 257)))), hM am (ai_up (ai_up MM 26 (12 * k + m) 0) 27 (12 * k + m) 0) N) := fw_167 (d := e + 2) (x := 10) (al := am) (M := ai_up (ai_up MM 26 (12 * k + m) 0) 27 (12 * k + m) 0) (N := N) hJ.2.2.2.2.1 (j := 6) (by omega) s10
      have c0 : fp_Fc k M0 (ai_up (ai_up (ai_up (ai_up (ai_up M 23 6 (nI (23 * (12 * k + m)))) 26 (23 * (12 * k + m)) 0) 26 (23 * (12 * k + m) + 1) 0) 26 (23 * (12 * k + m) + 2) 0) 25 k (nI (m + 1))) := ((((hc.u23 _).u26 (by omega) _).u26 (by omega) _).u26 (by omega) _).u25 _
      have m0 : fp_Fm k MM0 (ai_up (ai_up MM 26 (12 * k + m) 0) 27 (12 * k + m) 0) := (hm.u1 (by decide) (by omega) _).u1 (by decide) (by omega) _
      rw [if_pos (fj_gt (c := 12) (n := 12) rfl hm12 (by omega)), if_neg (fj_ne (c := 12) (n := 12) rfl (by omega) (by omega) (by omega)), bq_62_4, fw_74 hJ.2.2.2.2.2.2.1 z3 z1 hm12, fb_n, bq_62_5, show (ai_up (ai_up (ai_up (ai_up (ai_up M 23 6 (nI (23 * (12 * k + m)))) 26 (23 * (12 * k + m)) 0) 26 (23 * (12 * k + m) + 1) 0) 26 (23 * (12 * k + m) + 2) 0) 25 k (nI (m + 1))) 32 4 = fp_tk b n i from hJ.1.2.2, bq_170_9, ik, cond_true, nI_clamp (by omega), z4, show (12 : Int32) = nI 12 from rfl, pk_mul, nI_add, ip, cond_true, cond_true, nI_clamp (by omega), y6, fb_s, bq_170_10]
      by_cases h6 : fp_tk b n i = 257
      · rw [if_pos h6, bq_63_0]
        rcases fp_tests (d := d) (e := e) (al := al) (am := am) (kl := kl) (M0 := M0) (MM0 := MM0) (f0 := f0) 4 0 i (ai_up (ai_up (ai_up (ai_up (ai_up M 23 6 (nI (23 * (12 * k + m)))) 26 (23 * (12 * k + m)) 0) 26 (23 * (12 * k + m) + 1) 0) 26 (23 * (12 * k + m) + 2) 0) 25 k (nI (m + 1))) (ai_up (ai_up MM 26 (12 * k + m) 0) 27 (12 * k + m) 0) N (fn_b (fp_tk b n i = 257)) ai_un ai_un (by omega) hJ (by rw [h6]; decide) (by rw [h6]; decide) V0 c0 m0 h2 (fun z => fn_b0.mp z h6) with ⟨M', MM', N', a1, a2, a3⟩ | ⟨i1, q1, M1, MM1, N1, a1, a2, a3, a4, a5, a6, a7⟩
        · refine Or.inl ⟨M', MM', N', ?_, a2, a3⟩
          rw [show ai_run (d + 4) 63 1 [.ref 32, .int 0] [] (hC al kl (ai_up (ai_up (ai_up (ai_up (ai_up M 23 6 (nI (23 * (12 * k + m)))) 26 (23 * (12 * k + m)) 0) 26 (23 * (12 * k + m) + 1) 0) 26 (23 * (12 * k + m) + 2) 0) 25 k (nI (m + 1)))) = some (.inl (some (.int 0)), hC al kl M') from a1, fb_s, bq_62_6, if_pos rfl]
        · rcases sum i1 q1 M1 MM1 N1 (.int 0) a3 a4 a5 a6 a7 with ⟨M', MM', N', b1, b2, b3⟩ | ⟨i', M', MM', N', b1, b2, b3, b4, b5, b6, b7⟩
          · refine Or.inl ⟨M', MM', N', ?_, a2.trans b2, b3⟩
            rw [show ai_run (d + 4) 63 1 [.ref 32, .int 0] [] (hC al kl (ai_up (ai_up (ai_up (ai_up (ai_up M 23 6 (nI (23 * (12 * k + m)))) 26 (23 * (12 * k + m)) 0) 26 (23 * (12 * k + m) + 1) 0) 26 (23 * (12 * k + m) + 2) 0) 25 k (nI (m + 1)))) = some (.inl (some (.int 1)), hC al kl M1) from a1, fb_s, bq_62_6, if_neg (by decide), b1]
          · refine Or.inr ⟨hm12, i', M', MM', N', ?_, a2.trans b2, b3, b4, b5, b6, b7⟩
            rw [show ai_run (d + 4) 63 1 [.ref 32, .int 0] [] (hC al kl (ai_up (ai_up (ai_up (ai_up (ai_up M 23 6 (nI (23 * (12 * k + m)))) 26 (23 * (12 * k + m)) 0) 26 (23 * (12 * k + m) + 1) 0) 26 (23 * (12 * k + m) + 2) 0) 25 k (nI (m + 1)))) = some (.inl (some (.int 1)), hC al kl M1) from a1, fb_s, bq_62_6, if_neg (by decide), b1]
      · rw [if_neg h6, show fn_b (fp_tk b n i = 257) = 0 from fn_b0.mpr h6, bq_170_11, if_pos rfl]
        rcases sum i 0 (ai_up (ai_up (ai_up (ai_up (ai_up M 23 6 (nI (23 * (12 * k + m)))) 26 (23 * (12 * k + m)) 0) 26 (23 * (12 * k + m) + 1) 0) 26 (23 * (12 * k + m) + 2) 0) 25 k (nI (m + 1))) (ai_up (ai_up MM 26 (12 * k + m) 0) 27 (12 * k + m) 0) N (.int 0) hJ V0 c0 m0 h2 with z | z
        · exact Or.inl z
        · exact Or.inr ⟨hm12, z⟩
    · have em : m = 12 := by omega
      subst em
      refine Or.inl ⟨_, _, N, ?_, ?_, hJ.fail hc hm 3⟩
      · rw [if_neg (by decide), bq_71_0, fb_s, bq_62_3, if_pos (Or.inl rfl)]
      · rw [if_pos (show nI 12 = 12 from rfl), bq_161_0, fb_s, bq_170_8]
        rfl
  by_cases h6 : fp_tk b n i = 257
  · rw [if_pos h6, if_neg (fun z => fn_b0.mp z h6)]
    exact body (Or.inl h6)
  · rw [if_neg h6, if_pos (fn_b0.mpr h6), fb_s, bq_170_4, w9]
    by_cases h8 : fp_tk b n i = 259
    · rw [if_pos h8, if_neg (fun z => fn_b0.mp z h8)]
      exact body (Or.inr (Or.inl h8))
    · rw [if_neg h8, if_pos (fn_b0.mpr h8), fb_s, bq_170_5]
      by_cases h9 : fp_tk b n i = 260
      · rw [if_pos h9, if_neg (fun z => fn_b0.mp z h9)]
        exact body (Or.inr (Or.inr h9))
      · refine Or.inl ⟨_, _, N, ?_, ?_, hJ.fail hc hm 1⟩
        · rw [if_neg h9, bq_71_0, fb_s, bq_62_1, if_pos (Or.inl rfl)]
        · rw [if_pos (fn_b0.mpr h9), bq_161_0, fb_s, bq_170_6]
          rfl
/-- all rules -/
theorem fp_rules {d e : Nat} {al am : Nat × Nat} {kl : Nat} {b : Nat → Nat} {n L k : Nat} {M0 MM0 : Nat → Nat → Int32} {f0 : Int32} : ∀ (r m i : Nat) (M MM : Nat → Nat → Int32) (N : Nat → Nat → Int64) (x2 : Int32) (v3 v4 v5 : Value), m + r = 12 → fp_J b n L k i M MM N → fp_Zm k m M MM → fp_Fc k M0 M → fp_Fm k MM0 MM → M 32 2 = f0 → x2 ≠ 0 → (∃ (M' MM' : Nat → Nat → Int32) (N' : Nat → Nat → Int64), ai_run (d + 6) 60 3 [.ref 32, .int (nI m)] [] (hC al kl M) = some (.inl (some (.int 0)), hC al kl M') ∧ ai_run (e + 5) 170 2 [.ref 0, .int (nI k), .int x2, v3, v4, v5] [] (hM am MM N) = some (.inr 22, hM am MM' N') ∧ fp_X b n L k M0 MM0 M' MM') ∨ (∃ (m' : Nat) (M' MM' : Nat → Nat → Int32) (N' : Nat → Nat → Int64), ai_run (d + 6) 60 3 [.ref 32, .int (nI m)] [] (hC al kl M) = some (.inl (some (.int 1)), hC al kl M') ∧ ai_run (e + 5) 170 2 [.ref 0, .int (nI k), .int x2, v3, v4, v5] [] (hM am MM N) = some (.inl none, hM am MM' N') ∧ fp_Zm k m' M' MM' ∧ fp_Fc k M0 M' ∧ fp_Fm k MM0 MM' ∧ M' 32 2 = f0) := by
  intro r
  induction r with
  | zero =>
    intro m i M MM N x2 v3 v4 v5 hr hJ hZ hc hm h2 hx
    rw [bq_60_3, if_neg (fj_nlt (c := 12) (n := 12) rfl (by omega) (by omega))]
    rcases fp_rule (d := d) (e := e) (al := al) (am := am) (kl := kl) (M0 := M0) (MM0 := MM0) (f0 := f0) (v3 := v3) (v4 := v4) (v5 := v5) hJ hZ hc hm h2 hx with ⟨M', MM', N', a1, a2, a3⟩ | ⟨a0, -⟩
    · exact Or.inl ⟨M', MM', N', by rw [a1, fb_s, bq_60_4, if_pos rfl], a2, a3⟩
    · omega
  | succ r ih =>
    intro m i M MM N x2 v3 v4 v5 hr hJ hZ hc hm h2 hx
    rw [bq_60_3, if_neg (fj_nlt (c := 12) (n := 12) rfl (by omega) (by omega))]
    rcases fp_rule (d := d) (e := e) (al := al) (am := am) (kl := kl) (M0 := M0) (MM0 := MM0) (f0 := f0) (v3 := v3) (v4 := v4) (v5 := v5) hJ hZ hc hm h2 hx with ⟨M', MM', N', a1, a2, a3⟩ | ⟨a0, i', M', MM', N', a1, a2, a3, a4, a5, a6, a7⟩
    · exact Or.inl ⟨M', MM', N', by rw [a1, fb_s, bq_60_4, if_pos rfl], a2, a3⟩
    · rw [a1, fb_s, bq_60_4, if_neg (by decide), bq_60_5, a3.1.2.2, a2, bq_170_26]
      by_cases ce : fp_tk b n i' = -1
      · have hne : ¬ fp_tk b n i' = 59 := by rw [ce]; decide
        refine Or.inr ⟨m + 1, M', MM', N', by rw [if_pos ce], ?_, a4, a5, a6, a7⟩
        rw [if_pos (fn_b0.mpr hne), show fn_b (fp_tk b n i' = 59) = 0 from fn_b0.mpr hne, bq_170_27, bq_170_2, if_pos rfl, bq_170_28, if_pos (a3.2.2.2.2.1.fin.mpr ce), bq_170_30]
      · rw [if_neg ce, bq_60_6, a3.1.2.2]
        by_cases c59 : fp_tk b n i' = 59
        · obtain ⟨g1, MM2, N2, g2, g3, g4⟩ := fp_go (d := d + 4) (e := e + 3) (al := al) (am := am) (kl := kl) (v1 := ai_un) (v2 := ai_un) a3 ce (by rw [c59]; decide)
          rw [if_pos c59, if_neg (fun z => fn_b0.mp z c59), bq_60_8, g1, fb_n, bq_60_9, nI_1, g2, fb_n, bq_170_27]
          exact ih (m + 1) (i' + 1) _ MM2 N2 _ _ _ _ (by omega) g4 (a4.ag g3) ((a5.u32 3 _).u32 4 _) (a6.ag g3) a7 (fun z => fn_b0.mp z c59)
        · refine Or.inl ⟨_, _, N', ?_, ?_, a3.fail a5 a6 1⟩
          · rw [if_neg c59, bq_71_0, fb_s, bq_60_7, if_pos (Or.inl rfl)]
          · rw [if_pos (fn_b0.mpr c59), show fn_b (fp_tk b n i' = 59) = 0 from fn_b0.mpr c59, bq_170_27, bq_170_2, if_pos rfl, bq_170_28, if_neg (fun z => ce (a3.2.2.2.2.1.fin.mp z)), bq_161_0, fb_s, bq_170_29]
            rfl
