/-! ordinances: the drafts of both, side by side -/
def fp_Fc (k : Nat) (M0 M : Nat → Nat → Int32) : Prop := (∀ a, a ∉ [23, 25, 26, 32] → M a = M0 a) ∧ (∀ j, j ≠ 6 → M 23 j = M0 23 j) ∧ (∀ j, j ≠ k → M 25 j = M0 25 j) ∧ ∀ j, j < 276 * k → M 26 j = M0 26 j
def fp_Fm (k : Nat) (MM0 MM : Nat → Nat → Int32) : Prop := (∀ a, a ∉ [0, 22, 25, 26, 27, 28, 29, 30, 31, 32, 33] → MM a = MM0 a) ∧ (∀ j, (j < 35 ∨ 39 < j) → MM 0 j = MM0 0 j) ∧ (∀ j, j ≠ k → MM 25 j = MM0 25 j) ∧ (∀ a, a ∈ [26, 27, 28] → ∀ j, j < 12 * k → MM a j = MM0 a j) ∧ ∀ a, a ∈ [29, 30, 31, 32, 33] → ∀ j, j < 48 * k → MM a j = MM0 a j
theorem fp_Fc.refl {k : Nat} {M : Nat → Nat → Int32} : fp_Fc k M M := ⟨fun _ _ => rfl, fun _ _ => rfl, fun _ _ => rfl, fun _ _ => rfl⟩
theorem fp_Fm.refl {k : Nat} {M : Nat → Nat → Int32} : fp_Fm k M M := ⟨fun _ _ => rfl, fun _ _ => rfl, fun _ _ => rfl, fun _ _ _ _ => rfl, fun _ _ _ _ => rfl⟩
theorem fp_Fc.u32 {k : Nat} {M0 M : Nat → Nat → Int32} (h : fp_Fc k M0 M) (i : Nat) (v : Int32) : fp_Fc k M0 (ai_up M 32 i v) := by
  refine ⟨fun a ha => ?_, h.2.1, h.2.2.1, h.2.2.2⟩
  rw [fu_row (fun e => ha (by rw [e]; decide))]
  exact h.1 a ha
theorem fp_Fc.u26 {k : Nat} {M0 M : Nat → Nat → Int32} (h : fp_Fc k M0 M) {i : Nat} (hi : 276 * k ≤ i) (v : Int32) : fp_Fc k M0 (ai_up M 26 i v) := by
  refine ⟨fun a ha => ?_, h.2.1, h.2.2.1, fun j hj => ?_⟩
  · rw [fu_row (fun e => ha (by rw [e]; decide))]
    exact h.1 a ha
  · rw [fu_ne (by omega)]; exact h.2.2.2 j hj
theorem fp_Fc.u23 {k : Nat} {M0 M : Nat → Nat → Int32} (h : fp_Fc k M0 M) (v : Int32) : fp_Fc k M0 (ai_up M 23 6 v) := by
  refine ⟨fun a ha => ?_, fun j hj => ?_, h.2.2.1, h.2.2.2⟩
  · rw [fu_row (fun e => ha (by rw [e]; decide))]
    exact h.1 a ha
  · rw [fu_ne hj]; exact h.2.1 j hj
theorem fp_Fc.u25 {k : Nat} {M0 M : Nat → Nat → Int32} (h : fp_Fc k M0 M) (v : Int32) : fp_Fc k M0 (ai_up M 25 k v) := by
  refine ⟨fun a ha => ?_, h.2.1, fun j hj => ?_, h.2.2.2⟩
  · rw [fu_row (fun e => ha (by rw [e]; decide))]
    exact h.1 a ha
  · rw [fu_ne hj]; exact h.2.2.1 j hj
theorem fp_Fm.ag {k : Nat} {M0 M M' : Nat → Nat → Int32} (h : fp_Fm k M0 M) (hg : fp_ag M M') : fp_Fm k M0 M' := by
  have e : ∀ a, a ≠ 0 → M' a = M a := hg.1
  refine ⟨fun a ha => ?_, fun j hj => (hg.2 j hj).trans (h.2.1 j hj), fun j hj => ?_, fun a ha j hj => ?_, fun a ha j hj => ?_⟩
  · rw [e a (fun z => ha (by rw [z]; decide))]; exact h.1 a ha
  · rw [e 25 (by decide)]; exact h.2.2.1 j hj
  · rw [e a (fun z => by rw [z] at ha; exact absurd ha (by decide))]; exact h.2.2.2.1 a ha j hj
  · rw [e a (fun z => by rw [z] at ha; exact absurd ha (by decide))]; exact h.2.2.2.2 a ha j hj
theorem fp_Fm.u22 {k : Nat} {M0 M : Nat → Nat → Int32} (h : fp_Fm k M0 M) (i : Nat) (v : Int32) : fp_Fm k M0 (ai_up M 22 i v) := by
  refine ⟨fun a ha => ?_, h.2.1, h.2.2.1, fun a ha j hj => ?_, fun a ha j hj => ?_⟩
  · rw [fu_row (fun e => ha (by rw [e]; decide))]; exact h.1 a ha
  · rw [fu_row (fun z => by rw [z] at ha; exact absurd ha (by decide))]; exact h.2.2.2.1 a ha j hj
  · rw [fu_row (fun z => by rw [z] at ha; exact absurd ha (by decide))]; exact h.2.2.2.2 a ha j hj
theorem fp_Fm.u25 {k : Nat} {M0 M : Nat → Nat → Int32} (h : fp_Fm k M0 M) (v : Int32) : fp_Fm k M0 (ai_up M 25 k v) := by
  refine ⟨fun a ha => ?_, h.2.1, fun j hj => ?_, fun a ha j hj => ?_, fun a ha j hj => ?_⟩
  · rw [fu_row (fun e => ha (by rw [e]; decide))]; exact h.1 a ha
  · rw [fu_ne hj]; exact h.2.2.1 j hj
  · rw [fu_row (fun z => by rw [z] at ha; exact absurd ha (by decide))]; exact h.2.2.2.1 a ha j hj
  · rw [fu_row (fun z => by rw [z] at ha; exact absurd ha (by decide))]; exact h.2.2.2.2 a ha j hj
theorem fp_Fm.u1 {k : Nat} {M0 M : Nat → Nat → Int32} (h : fp_Fm k M0 M) {r i : Nat} (hr : r ∈ [26, 27, 28]) (hi : 12 * k ≤ i) (v : Int32) : fp_Fm k M0 (ai_up M r i v) := by
  have hr' : r = 26 ∨ r = 27 ∨ r = 28 := by simpa using hr
  refine ⟨fun a ha => ?_, fun j hj => ?_, fun j hj => ?_, fun a ha j hj => ?_, fun a ha j hj => ?_⟩
  · rw [fu_row (fun e => ha (by rw [e]; rcases hr' with z | z | z <;> rw [z] <;> decide))]; exact h.1 a ha
  · rw [fu_row (by omega)]; exact h.2.1 j hj
  · rw [fu_row (by omega)]; exact h.2.2.1 j hj
  · by_cases e : a = r
    · subst e; rw [fu_ne (by omega)]; exact h.2.2.2.1 a ha j hj
    · rw [fu_row e]; exact h.2.2.2.1 a ha j hj
  · have ha' : a = 29 ∨ a = 30 ∨ a = 31 ∨ a = 32 ∨ a = 33 := by simpa using ha
    rw [fu_row (by omega)]; exact h.2.2.2.2 a ha j hj
theorem fp_Fm.u2 {k : Nat} {M0 M : Nat → Nat → Int32} (h : fp_Fm k M0 M) {r i : Nat} (hr : r ∈ [29, 30, 31, 32, 33]) (hi : 48 * k ≤ i) (v : Int32) : fp_Fm k M0 (ai_up M r i v) := by
  have hr' : r = 29 ∨ r = 30 ∨ r = 31 ∨ r = 32 ∨ r = 33 := by simpa using hr
  refine ⟨fun a ha => ?_, fun j hj => ?_, fun j hj => ?_, fun a ha j hj => ?_, fun a ha j hj => ?_⟩
  · rw [fu_row (fun e => ha (by rw [e]; rcases hr' with z | z | z | z | z <;> rw [z] <;> decide))]; exact h.1 a ha
  · rw [fu_row (by omega)]; exact h.2.1 j hj
  · rw [fu_row (by omega)]; exact h.2.2.1 j hj
  · have ha' : a = 26 ∨ a = 27 ∨ a = 28 := by simpa using ha
    rw [fu_row (by omega)]; exact h.2.2.2.1 a ha j hj
  · by_cases e : a = r
    · subst e; rw [fu_ne (by omega)]; exact h.2.2.2.2 a ha j hj
    · rw [fu_row e]; exact h.2.2.2.2 a ha j hj
/-- both readers stand before the same token -/
def fp_J (b : Nat → Nat) (n L k i : Nat) (M MM : Nat → Nat → Int32) (N : Nat → Nat → Int64) : Prop := (i ≤ L ∧ M 32 3 = nI i ∧ M 32 4 = fp_tk b n i) ∧ fp_C b n L (M 28 3) (M 30) (M 31) ∧ fp_Dm b n MM ∧ MM 0 37 = nI (fp_pl b n i) ∧ fp_R (fp_tk b n i) (MM 0 36) (MM 0 38) (MM 0 39) (N 0 40) ∧ (fp_tk b n i ≠ -2 → MM 0 35 = nI (fp_ps b n (i + 1))) ∧ M 23 2 = nI k ∧ MM 0 41 = nI k
theorem fp_J.lt {b : Nat → Nat} {n L k i : Nat} {M MM : Nat → Nat → Int32} {N : Nat → Nat → Int64} (h : fp_J b n L k i M MM N) (h1 : fp_tk b n i ≠ -1) (h2 : fp_tk b n i ≠ -2) : i < L := by
  rcases Nat.lt_or_eq_of_le h.1.1 with z | z
  · exact z
  · rw [z] at h1 h2
    rcases h.2.1.2.2.2.2 with y | y
    · exact absurd y h1
    · exact absurd y h2
/-- the class's next token -/
def fp_adv (b : Nat → Nat) (n i : Nat) (M : Nat → Nat → Int32) : Nat → Nat → Int32 := ai_up (ai_up M 32 3 (nI (i + 1))) 32 4 (fp_tk b n (i + 1))
theorem fp_go {d e : Nat} {al am : Nat × Nat} {kl : Nat} {b : Nat → Nat} {n L k i : Nat} {M MM : Nat → Nat → Int32} {N : Nat → Nat → Int64} (h : fp_J b n L k i M MM N) (h1 : fp_tk b n i ≠ -1) (h2 : fp_tk b n i ≠ -2) {v1 v2 : Value} : ai_run (d + 1) 67 0 [.ref 32] [] (hC al kl M) = some (.inl none, hC al kl (fp_adv b n i M)) ∧ ∃ (MM' : Nat → Nat → Int32) (N' : Nat → Nat → Int64), ai_run (e + 1) 166 0 [.ref 0, v1, v2] [] (hM am MM N) = some (.inl none, hM am MM' N') ∧ fp_ag MM MM' ∧ fp_J b n L k (i + 1) (fp_adv b n i M) MM' N' := by
  have hi := h.lt h1 h2
  obtain ⟨⟨j1, j2, j3⟩, jC, jD, j4, j5, j6, j7, j8⟩ := id h
  obtain ⟨c1, c2, c3, c4, c5⟩ := jC
  refine ⟨?_, ?_⟩
  · rw [bq_67_0, j2, nI_1, bq_92_0, show (ai_up M 32 3 (nI (i + 1))) 28 3 = nI (L + 1) from c2, if_neg (nI_pos (by omega)), if_neg (nI_ge (by omega) (by omega)), fi_in (by omega), decide_eq_true (by omega), cond_true, nI_clamp (by omega), show (ai_up M 32 3 (nI (i + 1))) 30 (i + 1) = fp_tk b n (i + 1) from (c3 (i + 1) (by omega)).1, bq_92_2, fb_s, bq_67_1]
    rfl
  · obtain ⟨MM', N', a1, a2, a3, a4, a5⟩ := fw_166 (d := e) (al := am) (N := N) (v1 := v1) (v2 := v2) jD (c3 (i + 1) (by omega)).2.2 (j6 h2)
    refine ⟨MM', N', a1, a2, ⟨by omega, ?_, fu_at⟩, ⟨c1, c2, c3, c4, c5⟩, a2.D jD, a3, a4, a5, j7, (a2.2 41 (by omega)).trans j8⟩
    show ai_up (ai_up M 32 3 (nI (i + 1))) 32 4 _ 32 3 = _
    rw [fu_ne (by decide), fu_at]
/-- reading has failed, alike -/
def fp_X (b : Nat → Nat) (n L k : Nat) (M0 MM0 M MM : Nat → Nat → Int32) : Prop := ∃ (i : Nat) (kd : Int32), i ≤ L ∧ M 32 2 = kd ∧ M 32 3 = nI i ∧ MM 22 6 = kd ∧ MM 22 7 = nI (fp_pl b n i) ∧ fp_Fc k M0 M ∧ fp_Fm k MM0 MM
theorem fp_J.fail {b : Nat → Nat} {n L k i : Nat} {M0 MM0 M MM : Nat → Nat → Int32} {N : Nat → Nat → Int64} (h : fp_J b n L k i M MM N) (hc : fp_Fc k M0 M) (hm : fp_Fm k MM0 MM) (kd : Int32) : fp_X b n L k M0 MM0 (ai_up M 32 2 kd) (fp_sp MM kd) := by
  refine ⟨i, kd, h.1.1, fu_at, ?_, ?_, ?_, hc.u32 2 kd, (hm.u22 6 kd).u22 7 _⟩
  · rw [fu_ne (by decide)]; exact h.1.2.1
  · unfold fp_sp; rw [fu_ne (by decide), fu_at]
  · unfold fp_sp; rw [fu_at]; exact h.2.2.2.1
/-- test j, term j of rule p -/
def fp_tt (p j : Nat) (r26 s29 s30 s31 : Nat → Int32) : Prop := (r26 (23 * p + 3 + 3 * j) = s29 (4 * p + j) ∧ ∃ x : Nat, x ≤ 5 ∧ s29 (4 * p + j) = nI x) ∧ r26 (23 * p + 3 + 3 * j + 1) = s30 (4 * p + j) ∧ r26 (23 * p + 3 + 3 * j + 2) = s31 (4 * p + j)
def fp_tm (p j : Nat) (r26 s32 s33 : Nat → Int32) : Prop := (r26 (23 * p + 15 + 2 * j) = s33 (4 * p + j) ∧ 0 ≤ s33 (4 * p + j) ∧ s33 (4 * p + j) ≤ 999) ∧ ((s32 (4 * p + j) = -1 ∧ r26 (23 * p + 15 + 2 * j + 1) = 6) ∨ ∃ x : Nat, x ≤ 5 ∧ s32 (4 * p + j) = nI x ∧ r26 (23 * p + 15 + 2 * j + 1) = nI x)
theorem fn_ru.cg {p : Nat} {r26 s26 s27 s28 s29 s30 s31 s32 s33 r26' s26' s27' s28' s29' s30' s31' s32' s33' : Nat → Int32} (h : fn_ru p r26 s26 s27 s28 s29 s30 s31 s32 s33) (h1 : ∀ j, 23 * p ≤ j → j < 23 * p + 23 → r26' j = r26 j) (h2 : s26' p = s26 p) (h3 : s27' p = s27 p) (h4 : s28' p = s28 p) (h5 : ∀ j, 4 * p ≤ j → j < 4 * p + 4 → s29' j = s29 j ∧ s30' j = s30 j ∧ s31' j = s31 j ∧ s32' j = s32 j ∧ s33' j = s33 j) : fn_ru p r26' s26' s27' s28' s29' s30' s31' s32' s33' := by
  obtain ⟨⟨a1, a2⟩, ⟨q, q1, q2, q3, q4⟩, u, u1, u2, u3, u4⟩ := h
  refine ⟨⟨?_, ?_⟩, ⟨q, q1, ?_, ?_, fun k hk => ?_⟩, u, u1, ?_, ?_, fun k hk => ?_⟩
  · rw [h1 _ (by omega) (by omega), h4]; exact a1
  · rw [h4]; exact a2
  · rw [h1 _ (by omega) (by omega)]; exact q2
  · rw [h2]; exact q3
  · obtain ⟨e1, e2, e3, -, -⟩ := h5 (4 * p + k) (by omega) (by omega)
    rw [h1 _ (by omega) (by omega), h1 _ (by omega) (by omega), h1 _ (by omega) (by omega), e1, e2, e3]
    exact q4 k hk
  · rw [h1 _ (by omega) (by omega)]; exact u2
  · rw [h3]; exact u3
  · obtain ⟨-, -, -, e4, e5⟩ := h5 (4 * p + k) (by omega) (by omega)
    rw [h1 _ (by omega) (by omega), h1 _ (by omega) (by omega), e4, e5]
    exact u4 k hk
/-- a rule is being read: q tests and u terms so far; its kind, if kf; all rules before it -/
def fp_V (k m q u : Nat) (kf : Bool) (c6 : Int32) (r25 r26 s25 s26 s27 s28 s29 s30 s31 s32 s33 : Nat → Int32) : Prop := (k ≤ 10 ∧ m < 12 ∧ q ≤ 4 ∧ u ≤ 4) ∧ (c6 = nI (23 * (12 * k + m)) ∧ r25 k = nI (m + 1) ∧ s25 k = nI m) ∧ (r26 (23 * (12 * k + m) + 1) = nI q ∧ s26 (12 * k + m) = nI q ∧ ∀ j, j < q → fp_tt (12 * k + m) j r26 s29 s30 s31) ∧ (r26 (23 * (12 * k + m) + 2) = nI u ∧ s27 (12 * k + m) = nI u ∧ ∀ j, j < u → fp_tm (12 * k + m) j r26 s32 s33) ∧ (kf = true → r26 (23 * (12 * k + m)) = s28 (12 * k + m) ∧ (s28 (12 * k + m) = 0 ∨ s28 (12 * k + m) = 1)) ∧ ∀ r, r < m → fn_ru (12 * k + r) r26 s26 s27 s28 s29 s30 s31 s32 s33
abbrev fp_Vm (k m q u : Nat) (kf : Bool) (M MM : Nat → Nat → Int32) : Prop := fp_V k m q u kf (M 23 6) (M 25) (M 26) (MM 25) (MM 26) (MM 27) (MM 28) (MM 29) (MM 30) (MM 31) (MM 32) (MM 33)
theorem fp_V.ag {k m q u : Nat} {kf : Bool} {M MM MM' : Nat → Nat → Int32} (h : fp_Vm k m q u kf M MM) (hg : fp_ag MM MM') : fp_Vm k m q u kf M MM' := by
  unfold fp_Vm
  rw [hg.1 25 (by decide), hg.1 26 (by decide), hg.1 27 (by decide), hg.1 28 (by decide), hg.1 29 (by decide), hg.1 30 (by decide), hg.1 31 (by decide), hg.1 32 (by decide), hg.1 33 (by decide)]
  exact h
/-- one test more -/
theorem fp_V.test {k m q : Nat} {c6 : Int32} {r25 r26 s25 s26 s27 s28 s29 s30 s31 s32 s33 : Nat → Int32} (h : fp_V k m q 0 false c6 r25 r26 s25 s26 s27 s28 s29 s30 s31 s32 s33) (hq : q < 4) {x y z : Int32} (hx : ∃ c : Nat, c ≤ 5 ∧ x = nI c) : fp_V k m (q + 1) 0 false c6 r25 (upd (upd (upd (upd r26 (23 * (12 * k + m) + 3 + 3 * q) x) (23 * (12 * k + m) + 3 + 3 * q + 1) y) (23 * (12 * k + m) + 3 + 3 * q + 2) z) (23 * (12 * k + m) + 1) (nI (q + 1))) s25 (upd s26 (12 * k + m) (nI (q + 1))) s27 s28 (upd s29 (4 * (12 * k + m) + q) x) (upd s30 (4 * (12 * k + m) + q) y) (upd s31 (4 * (12 * k + m) + q) z) s32 s33 := by
  obtain ⟨⟨v1, v2, v3, v4⟩, w, ⟨t1, t2, t3⟩, ⟨u1, u2, u3⟩, kk, rr⟩ := h
  refine ⟨⟨v1, v2, by omega, v4⟩, w, ⟨pk_us, pk_us, fun j hj => ?_⟩, ⟨?_, u2, fun j hj => absurd hj (Nat.not_lt_zero _)⟩, fun z => absurd z (by decide), fun r hr => ?_⟩
  · unfold fp_tt
    by_cases e : j = q
    · subst e
      rw [pk_us, pk_us, pk_us, pk_un (by omega), pk_un (by omega), pk_un (by omega), pk_us, pk_un (by omega), pk_un (by omega), pk_us, pk_un (by omega), pk_us]
      exact ⟨⟨rfl, hx⟩, rfl, rfl⟩
    · rw [pk_un (by omega), pk_un (by omega), pk_un (by omega), pk_un (by omega), pk_un (by omega), pk_un (by omega), pk_un (by omega), pk_un (by omega), pk_un (by omega), pk_un (by omega), pk_un (by omega), pk_un (by omega), pk_un (by omega), pk_un (by omega), pk_un (by omega)]
      exact t3 j (by omega)
  · rw [pk_un (by omega), pk_un (by omega), pk_un (by omega), pk_un (by omega)]; exact u1
  · refine (rr r hr).cg (fun j h1 h2 => ?_) (pk_un (by omega)) rfl rfl (fun j h1 h2 => ⟨pk_un (by omega), pk_un (by omega), pk_un (by omega), rfl, rfl⟩)
    rw [pk_un (by omega), pk_un (by omega), pk_un (by omega), pk_un (by omega)]
/-- one term more -/
theorem fp_V.term {k m q u : Nat} {c6 : Int32} {r25 r26 s25 s26 s27 s28 s29 s30 s31 s32 s33 : Nat → Int32} (h : fp_V k m q u true c6 r25 r26 s25 s26 s27 s28 s29 s30 s31 s32 s33) (hu : u < 4) {x y z : Int32} (hx : 0 ≤ x ∧ x ≤ 999) (hy : (z = -1 ∧ y = 6) ∨ ∃ c : Nat, c ≤ 5 ∧ z = nI c ∧ y = nI c) {s32' s33' : Nat → Int32} (e2 : s32' (4 * (12 * k + m) + u) = z ∧ ∀ j, j ≠ 4 * (12 * k + m) + u → s32' j = s32 j) (e3 : s33' (4 * (12 * k + m) + u) = x ∧ ∀ j, j ≠ 4 * (12 * k + m) + u → s33' j = s33 j) : fp_V k m q (u + 1) true c6 r25 (upd (upd (upd r26 (23 * (12 * k + m) + 15 + 2 * u) x) (23 * (12 * k + m) + 15 + 2 * u + 1) y) (23 * (12 * k + m) + 2) (nI (u + 1))) s25 s26 (upd s27 (12 * k + m) (nI (u + 1))) s28 s29 s30 s31 s32' s33' := by
  obtain ⟨⟨v1, v2, v3, v4⟩, w, ⟨t1, t2, t3⟩, ⟨u1, u2, u3⟩, kk, rr⟩ := h
  refine ⟨⟨v1, v2, v3, by omega⟩, w, ⟨?_, t2, fun j hj => ?_⟩, ⟨pk_us, pk_us, fun j hj => ?_⟩, fun z => ?_, fun r hr => ?_⟩
  · rw [pk_un (by omega), pk_un (by omega), pk_un (by omega)]; exact t1
  · unfold fp_tt
    rw [pk_un (by omega), pk_un (by omega), pk_un (by omega), pk_un (by omega), pk_un (by omega), pk_un (by omega), pk_un (by omega), pk_un (by omega), pk_un (by omega)]
    exact t3 j hj
  · unfold fp_tm
    by_cases e : j = u
    · subst e
      rw [e2.1, e3.1, pk_un (by omega), pk_un (by omega), pk_us, pk_un (by omega), pk_us]
      exact ⟨⟨rfl, hx⟩, hy⟩
    · rw [e2.2 _ (by omega), e3.2 _ (by omega), pk_un (by omega), pk_un (by omega), pk_un (by omega), pk_un (by omega), pk_un (by omega), pk_un (by omega)]
      exact u3 j (by omega)
  · rw [pk_un (by omega), pk_un (by omega), pk_un (by omega)]; exact kk z
  · refine (rr r hr).cg (fun j h1 h2 => ?_) rfl (pk_un (by omega)) rfl (fun j h1 h2 => ⟨rfl, rfl, rfl, e2.2 _ (by omega), e3.2 _ (by omega)⟩)
    rw [pk_un (by omega), pk_un (by omega), pk_un (by omega)]
/-! what the class writes -/
theorem fw_76 {d : Nat} {al : Nat × Nat} {kl p q : Nat} {M : Nat → Nat → Int32} {x y z : Int32} (h6 : M 23 6 = nI (23 * p)) (h1 : M 26 (23 * p + 1) = nI q) (hp : p < 132) (hq : q < 4) {v : Value} : ai_run d 76 0 [.ref 23, .int x, .int y, .int z, v] [] (hC al kl M) = some (.inl none, hC al kl (ai_up (ai_up (ai_up (ai_up M 26 (23 * p + 3 + 3 * q) x) 26 (23 * p + 3 + 3 * q + 1) y) 26 (23 * p + 3 + 3 * q + 2) z) 26 (23 * p + 1) (nI (q + 1)))) := by
  have e3 : nI (23 * p) + 3 = nI (23 * p + 3) := nI_add _ 3
  have e4 : (3 : Int32) * nI q = nI (3 * q) := pk_mul 3 q
  have e5 : nI (23 * p + 3 + 3 * q) + 2 = nI (23 * p + 3 + 3 * q + 2) := nI_add _ 2
  have i1 : ∀ c : Nat, c < 3036 → ai_in (nI c) 3036 = true := fun c hc => by rw [fi_in (by omega)]; exact decide_eq_true hc
  rw [bq_76_0, h6, nI_1, nI_clamp (n := 23 * p + 1) (by omega), h1, i1 _ (by omega), cond_true, if_neg (fj_nle (c := 4) (n := 4) rfl hq (by omega)), e3, e4, nI_add, e5, nI_1, i1 _ (by omega), i1 _ (by omega), i1 _ (by omega)]
  simp only [cond_true]
  rw [bq_76_1, nI_clamp (n := 23 * p + 3 + 3 * q) (by omega), nI_clamp (n := 23 * p + 3 + 3 * q + 1) (by omega), nI_clamp (n := 23 * p + 3 + 3 * q + 2) (by omega), pk_un (by omega), pk_un (by omega), pk_un (by omega), h1, nI_1]
theorem fw_77 {d : Nat} {al : Nat × Nat} {kl p u : Nat} {M : Nat → Nat → Int32} {x y : Int32} (h6 : M 23 6 = nI (23 * p)) (h1 : M 26 (23 * p + 2) = nI u) (hp : p < 132) (hu : u < 4) {v : Value} : ai_run d 77 0 [.ref 23, .int x, .int y, v] [] (hC al kl M) = some (.inl none, hC al kl (ai_up (ai_up (ai_up M 26 (23 * p + 15 + 2 * u) x) 26 (23 * p + 15 + 2 * u + 1) y) 26 (23 * p + 2) (nI (u + 1)))) := by
  have e2 : nI (23 * p) + 2 = nI (23 * p + 2) := nI_add _ 2
  have e3 : nI (23 * p) + 15 = nI (23 * p + 15) := nI_add _ 15
  have e4 : (2 : Int32) * nI u = nI (2 * u) := pk_mul 2 u
  have i1 : ∀ c : Nat, c < 3036 → ai_in (nI c) 3036 = true := fun c hc => by rw [fi_in (by omega)]; exact decide_eq_true hc
  rw [bq_77_0, h6, e2, nI_clamp (n := 23 * p + 2) (by omega), h1, i1 _ (by omega), cond_true, if_neg (fj_nle (c := 4) (n := 4) rfl hu (by omega)), e3, e4, nI_add, nI_1, i1 _ (by omega), i1 _ (by omega)]
  simp only [cond_true]
  rw [bq_77_1, nI_clamp (n := 23 * p + 15 + 2 * u) (by omega), nI_clamp (n := 23 * p + 15 + 2 * u + 1) (by omega), pk_un (by omega), pk_un (by omega), h1, nI_1]
theorem fw_74 {d : Nat} {al : Nat × Nat} {kl k m : Nat} {M : Nat → Nat → Int32} (h2 : M 23 2 = nI k) (h5 : M 25 k = nI m) (hk : k ≤ 10) (hm : m < 12) : ai_run (d + 1) 74 0 [.ref 23] [] (hC al kl M) = some (.inl none, hC al kl (ai_up (ai_up (ai_up (ai_up (ai_up M 23 6 (nI (23 * (12 * k + m)))) 26 (23 * (12 * k + m)) 0) 26 (23 * (12 * k + m) + 1) 0) 26 (23 * (12 * k + m) + 2) 0) 25 k (nI (m + 1)))) := by
  have e2 : nI (23 * (12 * k + m)) + 2 = nI (23 * (12 * k + m) + 2) := nI_add _ 2
  have i1 : ∀ c : Nat, c < 3036 → ai_in (nI c) 3036 = true := fun c hc => by rw [fi_in (by omega)]; exact decide_eq_true hc
  have ik : ai_in (nI k) 11 = true := by rw [fi_in (by omega)]; exact decide_eq_true (by omega)
  rw [bq_74_0, h2, if_neg (fj_nlt (c := 10) (n := 10) rfl hk (by omega)), ik, cond_true, cond_true, nI_clamp (n := k) (by omega), h5, if_neg (fj_nle (c := 12) (n := 12) rfl hm (by omega)), bq_88_0, fi_row, fb_s, bq_74_1, nI_1, e2, h2, i1 _ (by omega), i1 _ (by omega), i1 _ (by omega), ik]
  simp only [cond_true]
  rw [bq_74_2, nI_clamp (n := k) (by omega), nI_clamp (by omega), nI_clamp (by omega), nI_clamp (by omega), h5, nI_1]
theorem fw_75 {d : Nat} {al : Nat × Nat} {kl p : Nat} {M : Nat → Nat → Int32} {x : Int32} (h6 : M 23 6 = nI (23 * p)) (hp : p < 132) (hx : x = 0 ∨ x = 1) : ai_run d 75 0 [.ref 23, .int x] [] (hC al kl M) = some (.inl none, hC al kl (ai_up M 26 (23 * p) x)) := by
  have i1 : ai_in (nI (23 * p)) 3036 = true := by rw [fi_in (by omega)]; exact decide_eq_true (by omega)
  rw [bq_75_0, h6]
  rcases hx with e | e
  · subst e
    rw [if_pos rfl, bq_75_1, bq_75_2, i1, cond_true, nI_clamp (by omega)]
  · subst e
    rw [if_neg (by decide), bq_75_2, i1, cond_true, nI_clamp (by omega)]
/-- the class asks: a number? a name? -/
theorem fw_68 {d : Nat} {al : Nat × Nat} {kl : Nat} {M : Nat → Nat → Int32} : ai_run d 68 0 [.ref 32] [] (hC al kl M) = some (.inl (some (.int (fn_b (¬ M 32 4 < 1000)))), hC al kl M) := by
  unfold fn_b
  rw [bq_68_0]
  by_cases c : M 32 4 < 1000
  · rw [if_pos c, bq_68_1, bq_68_2, if_pos (Or.inl rfl), if_neg (fun z => z c)]
  · rw [if_neg c, bq_68_2, if_pos (Or.inr rfl), if_pos c]
theorem fw_69 {d : Nat} {al : Nat × Nat} {kl : Nat} {M : Nat → Nat → Int32} : ai_run d 69 0 [.ref 32] [] (hC al kl M) = some (.inl (some (.int (fn_b (0 ≤ M 32 4 ∧ M 32 4 ≤ 5)))), hC al kl M) := by
  unfold fn_b
  rw [bq_69_0]
  by_cases c : M 32 4 < 0
  · rw [if_pos c, bq_69_1, bq_69_2, if_pos (Or.inl rfl), if_neg (fun z => absurd c (Int32.not_lt.mpr z.1))]
  · rw [if_neg c]
    by_cases c2 : 5 < M 32 4
    · rw [if_pos c2, bq_69_1, bq_69_2, if_pos (Or.inl rfl), if_neg (fun z => absurd c2 (Int32.not_lt.mpr z.2))]
    · rw [if_neg c2, bq_69_2, if_pos (Or.inr rfl), if_pos ⟨Int32.not_lt.mp c, Int32.not_lt.mp c2⟩]
theorem fw_70 {d : Nat} {al : Nat × Nat} {kl : Nat} {M : Nat → Nat → Int32} : ai_run (d + 1) 70 0 [.ref 32] [] (hC al kl M) = some (.inl (some (.int 0)), hC al kl (ai_up M 32 2 (if M 32 4 = 256 then 2 else 1))) := by
  rw [bq_70_0]
  by_cases c : M 32 4 = 256
  · rw [if_pos c, bq_70_2, bq_71_0, fb_s, bq_70_3, if_pos (Or.inl rfl), if_pos c]
  · rw [if_neg c, bq_70_1, bq_70_2, bq_71_0, fb_s, bq_70_3, if_pos (Or.inl rfl), if_neg c]
