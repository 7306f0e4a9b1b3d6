/-! lodge: the reference, and both -/
theorem fd_st_le {f g : Nat → Nat} : ∀ (m i : Nat), (∀ j, i ≤ j → j < i + m → f j ≤ g j) → fd_st f i m ≤ fd_st g i m
  | 0, _, _ => Nat.le_refl _
  | m + 1, i, h => by
    show f i + fd_st f (i + 1) m ≤ g i + fd_st g (i + 1) m
    exact Nat.add_le_add (h i (by omega) (by omega)) (fd_st_le m (i + 1) (fun j h1 h2 => h j (by omega) (by omega)))
theorem fl_186a {d : Nat} {al : Nat × Nat} {N : Nat → Nat → Int64} {p : Nat} {A : fd_A} {MM : Nat → Nat → Int32} (hz : fd_Zm A p MM) : ∀ (m k l : Nat), k + m = A.2.1 → l ≤ 99 → (∀ r, r < k → l ≤ A.2.2.2.2.2.2.2 r) → ∃ l', l' ≤ 99 ∧ (∀ r, r < A.2.1 → l' ≤ A.2.2.2.2.2.2.2 r) ∧ ai_run (d + 1) 186 1 [.ref 0, .int (nI p), .int (nI l), .int (nI k)] [] (hM al MM N) = ai_run (d + 1) 186 3 [.ref 0, .int (nI p), .int (nI l'), .int (nI A.2.1)] [] (hM al MM N)
  | 0, k, l, hk, hl, hr => by
    obtain ⟨⟨z1, z2, z3, z4, z5⟩, zh, zr⟩ := id hz
    have e : k = A.2.1 := by omega
    subst e
    refine ⟨l, hl, hr, ?_⟩
    rw [bq_186_1, fi_in (by omega), decide_eq_true z3, cond_true, nI_clamp (by omega), z5, if_pos Int32.le_rfl]
  | m + 1, k, l, hk, hl, hr => by
    obtain ⟨⟨z1, z2, z3, z4, z5⟩, zh, zr⟩ := id hz
    obtain ⟨-, -, w1, w2⟩ := zr k (by omega)
    obtain ⟨l', p1, p2, p3⟩ := fl_186a (d := d) (al := al) (N := N) hz m (k + 1) (min l (A.2.2.2.2.2.2.2 k)) (by omega) (by omega) (fun r hr' => by
      by_cases e : r = k
      · rw [e]; omega
      · have := hr r (by omega); omega)
    refine ⟨l', p1, p2, ?_⟩
    rw [bq_186_1, fi_in (by omega), decide_eq_true z3, cond_true, nI_clamp (by omega), z5, if_neg (nI_ge (by omega) (by omega)), fi_r.2, fi_in (by omega), decide_eq_true (by omega), cond_true, nI_clamp (by omega), w1, fw_212 (by omega) (by omega), fb_s, bq_186_2, nI_1, p3]
theorem fl_186b {d : Nat} {al : Nat × Nat} {N : Nat → Nat → Int64} {p l : Nat} {A : fd_A} {MM : Nat → Nat → Int32} (hz : fd_Zm A p MM) : ∀ (k : Nat) (g : Nat → Int32) (v1 : Value), k ≤ A.1 → (∀ j, k ≤ j → j ≤ A.1 → g j = nI (fd_st (fun i => A.2.2.1 i * l) j (A.1 - j))) → ∃ g' : Nat → Int32, ai_run d 186 4 [.ref 0, v1, .int (nI l), .int (nI k - 1)] [] (hM al (fn_rw MM 37 g) N) = some (.inl none, hM al (fn_rw MM 37 g') N) ∧ ∀ j, j ≤ A.1 → g' j = nI (fd_st (fun i => A.2.2.1 i * l) j (A.1 - j))
  | 0, g, v1, hk, hg => by
    refine ⟨g, ?_, fun j hj => hg j (Nat.zero_le _) hj⟩
    rw [bq_186_4, if_pos (show nI 0 - 1 < 0 by decide), bq_186_5]
  | k + 1, g, v1, hk, hg => by
    obtain ⟨⟨z1, z2, z3, z4, z5⟩, zh, zr⟩ := id hz
    obtain ⟨-, ⟨w1, w2⟩, -⟩ := zh k (by omega)
    have est : fd_st (fun i => A.2.2.1 i * l) k (A.1 - k) = A.2.2.1 k * l + fd_st (fun i => A.2.2.1 i * l) (k + 1) (A.1 - (k + 1)) := by
      rw [show A.1 - k = A.1 - (k + 1) + 1 by omega]; rfl
    obtain ⟨g', p1, p2⟩ := fl_186b (d := d) (al := al) (N := N) hz k (upd g k (nI (fd_st (fun i => A.2.2.1 i * l) k (A.1 - k)))) ai_un (by omega) (fun j h1 h2 => by
      by_cases e : j = k
      · rw [e, pk_us]
      · rw [pk_un e]; exact hg j (by omega) h2)
    refine ⟨g', ?_, p2⟩
    have i8 : ai_in (nI k) 8 = true := by rw [fi_in (by omega)]; exact decide_eq_true (by omega)
    have i9 : ai_in (nI k) 9 = true := by rw [fi_in (by omega)]; exact decide_eq_true (by omega)
    have i9' : ai_in (nI (k + 1)) 9 = true := by rw [fi_in (by omega)]; exact decide_eq_true (by omega)
    rw [bq_186_4, nI_pred, if_neg (show ¬ nI k < 0 from nI_nlt (b := 0) (Nat.zero_le _) (by omega)), nI_1, i9', cond_true, i8, cond_true, i9, cond_true, nI_clamp (n := k) (by omega), nI_clamp (n := k + 1) (by omega), show (fn_rw MM 37 g) 37 (k + 1) = g (k + 1) from rfl, hg (k + 1) (Nat.le_refl _) (by omega), show (fn_rw MM 37 g) 2 k = nI (A.2.2.1 k) from w1, pk_mul, nI_add, fn_rw_up, Nat.add_comm, ← est, ← Int32.sub_eq_add_neg]
    exact p1
theorem fw_186 {d : Nat} {al : Nat × Nat} {N : Nat → Nat → Int64} {p : Nat} {A : fd_A} {MM : Nat → Nat → Int32} (hz : fd_Zm A p MM) {v2 v3 : Value} : ∃ g : Nat → Int32, ai_run (d + 1) 186 0 [.ref 0, .int (nI p), v2, v3] [] (hM al MM N) = some (.inl none, hM al (fn_rw MM 37 g) N) ∧ fd_sp A g := by
  obtain ⟨⟨z1, z2, z3, z4, z5⟩, zh, zr⟩ := id hz
  obtain ⟨l, l1, l2, l3⟩ := fl_186a (d := d) (al := al) (N := N) hz A.2.1 0 99 (by omega) (Nat.le_refl _) (fun r hr => absurd hr (Nat.not_lt_zero _))
  obtain ⟨g, p1, p2⟩ := fl_186b (d := d + 1) (al := al) (N := N) (l := l) hz A.1 (upd (MM 37) A.1 0) ai_un (Nat.le_refl _) (fun j h1 h2 => by
    rw [show j = A.1 by omega, pk_us, Nat.sub_self]; rfl)
  refine ⟨g, ?_, fun h hh => ⟨fd_st (fun i => A.2.2.1 i * l) (h + 1) (A.1 - (h + 1)), ?_, p2 _ (by omega), fun a ha => ?_⟩⟩
  · have l3' : ai_run (d + 1) 186 1 [.ref 0, .int (nI p), .int 99, .int 0] [] (hM al MM N) = ai_run (d + 1) 186 3 [.ref 0, .int (nI p), .int (nI l), .int (nI A.2.1)] [] (hM al MM N) := l3
    have e37 : ai_up MM 37 A.1 0 = fn_rw MM 37 (upd (MM 37) A.1 0) := by rw [← fn_rw_up, fn_rw_id]
    rw [bq_186_0, l3', bq_186_3, z4, fi_in (by omega), decide_eq_true (by omega), cond_true, nI_clamp (by omega), e37, p1]
  · have h1 := fd_st_su (f := fun i => A.2.2.1 i * l) (A.1 - (h + 1)) (h + 1)
    have h2 : fd_su (fun i => A.2.2.1 i * l) (h + 1 + (A.1 - (h + 1))) ≤ (h + 1 + (A.1 - (h + 1))) * 9801 := fd_su_b _ (fun i hi => Nat.mul_le_mul (zh i (by omega)).2.1.2 l1)
    have h3 : (h + 1 + (A.1 - (h + 1))) * 9801 ≤ 8 * 9801 := Nat.mul_le_mul_right 9801 (by omega)
    have h4 : fd_st (fun i => A.2.2.1 i * l) (h + 1) (A.1 - (h + 1)) ≤ fd_su (fun i => A.2.2.1 i * l) (h + 1 + (A.1 - (h + 1))) := by rw [← h1]; exact Nat.le_add_left _ _
    exact Nat.le_trans h4 (Nat.le_trans h2 (Nat.le_trans h3 (by decide)))
  · have h1 := fd_st_su (f := fd_f A a) (A.1 - (h + 1)) (h + 1)
    unfold fd_S
    rw [show fd_su (fd_f A a) A.1 = fd_su (fd_f A a) (h + 1 + (A.1 - (h + 1))) by rw [show h + 1 + (A.1 - (h + 1)) = A.1 by omega], ← h1]
    apply Nat.add_le_add_left
    exact fd_st_le _ _ (fun j h1 h2 => Nat.mul_le_mul_left _ (l2 _ (ha j (by omega))))
theorem fl_188 {d : Nat} {al : Nat × Nat} {N : Nat → Nat → Int64} {n : Nat} {MM : Nat → Nat → Int32} (hn : n ≤ 8) (h4 : MM 0 4 = nI n) : ∀ (m k : Nat) (g : Nat → Int32) (v1 v2 : Value), k + m = n → (∀ j, j < k → g j = MM 35 j) → ∃ g' : Nat → Int32, ai_run d 188 9 [.ref 0, v1, v2, .int (nI k)] [] (hM al (fn_rw MM 36 g) N) = ai_run d 188 10 [.ref 0, ai_un, ai_un, .int (nI n)] [] (hM al (fn_rw MM 36 g') N) ∧ ∀ j, j < n → g' j = MM 35 j
  | 0, k, g, v1, v2, hk, hg => by
    have e : k = n := by omega
    subst e
    exact ⟨g, by rw [bq_188_9, show (fn_rw MM 36 g) 0 4 = nI k from h4, if_pos Int32.le_rfl], hg⟩
  | m + 1, k, g, v1, v2, hk, hg => by
    obtain ⟨g', p1, p2⟩ := fl_188 (d := d) (al := al) (N := N) hn h4 m (k + 1) (upd g k (MM 35 k)) ai_un ai_un (by omega) (fun j hj => by
      by_cases e : j = k
      · rw [e, pk_us]
      · rw [pk_un e]; exact hg j (by omega))
    refine ⟨g', ?_, p2⟩
    rw [bq_188_9, show (fn_rw MM 36 g) 0 4 = nI n from h4, if_neg (nI_ge (by omega) (by omega)), fi_in (by omega), decide_eq_true (by omega), cond_true, cond_true, nI_clamp (by omega), fn_rw_up, nI_1, show (fn_rw MM 36 g) 35 k = MM 35 k from rfl, p1]
/-- the least sum and its rooms, as the reference finds them -/
theorem fw_188 {am : Nat × Nat} {N : Nat → Nat → Int64} {p : Nat} {A : fd_A} {MM : Nat → Nat → Int32} (hz : fd_Zm A p MM) (hex : ∃ a, fd_V A true a) : ∃ (g34 g35 g36 g37 : Nat → Int32) (b : Nat) (a : Nat → Nat), ai_run 200 188 6 [.ref 0, .int (nI p), ai_un, ai_un] [] (hM am MM N) = ai_run 200 188 10 [.ref 0, ai_un, ai_un, .int (nI A.1)] [] (hM am (fn_rw (fd_W (fn_rw MM 37 g37) g34 g35 (nI b)) 36 g36) N) ∧ fd_V A true a ∧ fd_S A a = b ∧ (∀ j, j < A.1 → g36 j = nI (a j)) ∧ ∀ a', fd_V A true a' → b ≤ fd_S A a' ∧ (fd_S A a' = b → fd_lx A.1 a a') := by
  have hn := hz.1.1
  obtain ⟨g37, p1, p2⟩ := fw_186 (d := 198) (al := am) (N := N) (v2 := ai_un) (v3 := ai_un) hz
  obtain ⟨d1, hd1⟩ : ∃ d1, 199 = d1 + A.1 := ⟨199 - A.1, by omega⟩
  obtain ⟨g34, g35, b, fd, q1, -, q3⟩ := fd_min (al := am) (N := N) (rk := true) (MM := fn_rw MM 37 g37) hz p2 A.1 0 d1 (by omega) (fun _ => 0) (fn_rw MM 37 g37 34) (fn_rw MM 37 g37 35) 1000000000 ai_un ai_un ai_un (Nat.le_refl _) (by show 0 < 1000000000; decide) (fun k hk => absurd hk (Nat.not_lt_zero _))
  rw [← hd1] at q1
  have e52 : ai_up (fn_rw MM 37 g37) 0 52 1000000000 = fd_W (fn_rw MM 37 g37) (fn_rw MM 37 g37 34) (fn_rw MM 37 g37 35) (nI 1000000000) := by
    have := fd_W52 (MM := fn_rw MM 37 g37) (g34 := fn_rw MM 37 g37 34) (g35 := fn_rw MM 37 g37 35) (b := fn_rw MM 37 g37 0 52) (v := nI 1000000000)
    rw [fd_W_id] at this
    exact this
  have q1' : ai_run 199 185 0 [.ref 0, .int (nI p), .int 0, .int 0, .int 1, .int 0, ai_un, ai_un, ai_un] [] (hM am (fd_W (fn_rw MM 37 g37) (fn_rw MM 37 g37 34) (fn_rw MM 37 g37 35) (nI 1000000000)) N) = some (.inl (some (.int (fn_bi fd))), hM am (fd_W (fn_rw MM 37 g37) g34 g35 (nI b)) N) := q1
  obtain ⟨a0, ha0⟩ := hex
  have hb0 : fd_S A a0 ≤ 78408 := Nat.le_trans (fd_su_b (B := 9801) A.1 (fun i hi => Nat.mul_le_mul (hz.2.1 i hi).2.1.2 (hz.2.2 _ (ha0 i hi).1).2.2.2)) (Nat.mul_le_mul_right 9801 hn)
  rcases q3 with ⟨-, -, e3⟩ | ⟨-, a, e2, e3, e4, e5⟩
  · exact absurd (e3 a0 ⟨ha0, fun k hk => absurd hk (Nat.not_lt_zero _)⟩) (by omega)
  · obtain ⟨g36, w1, w2⟩ := fl_188 (d := 200) (al := am) (N := N) (n := A.1) (MM := fd_W (fn_rw MM 37 g37) g34 g35 (nI b)) hn hz.1.2.2.2.1 A.1 0 (fd_W (fn_rw MM 37 g37) g34 g35 (nI b) 36) ai_un (.int (fn_bi fd)) (by omega) (fun j hj => absurd hj (Nat.not_lt_zero _))
    rw [fn_rw_id] at w1
    refine ⟨g34, g35, g36, g37, b, a, ?_, e2.1, e3, fun j hj => by rw [w2 j hj]; exact e4 j hj, fun a' ha' => e5 a' ⟨ha', fun k hk => absurd hk (Nat.not_lt_zero _)⟩⟩
    rw [bq_188_6, p1, fb_n, bq_188_7, e52, q1', fb_s, bq_188_8]
    exact w1
theorem fd_lx_un {n : Nat} {a a' : Nat → Nat} (h : fd_lx n a a') (h' : fd_lx n a' a) : ∀ j, j < n → a j = a' j := by
  intro j
  induction j using Nat.strongRecOn with
  | ind j ih =>
    intro hj
    exact Nat.le_antisymm (h j hj (fun i hi => (ih i hi (by omega)).symm)) (h' j hj (fun i hi => ih i hi (by omega)))
theorem ft_120 {n np t : Nat} {M MM : Nat → Nat → Int32} (h : fn_I n np t M MM) (x : Int32) : fn_S 120 188 [.int x] M MM := by
  intro al am kl N
  rw [show ai_ent (ai_mx 120) [.ref 0, .int x] = [.ref 0, .int x, ai_un, ai_un] from rfl, show ai_ent (ai_mx 188) [.ref 0, .int x] = [.ref 0, .int x, ai_un, ai_un] from rfl]
  obtain ⟨⟨l1, l2, l3⟩, l4, -⟩ := h.land
  rw [bq_120_0, fw_33, fb_s, bq_120_1, bq_188_0, fw_151, fb_s, bq_188_1, l2, show (ai_up MM 0 0 0) 0 5 = nI np from l3]
  by_cases hx : 0 ≤ x ∧ x < nI np
  · obtain ⟨p, p1, p2⟩ := fi_of (n := np) (by omega) hx
    subst p2
    obtain ⟨A, a1, a2, a3, a4⟩ := fd_of h p1
    have hn := a2.1.1
    obtain ⟨d1, hd1⟩ : ∃ d1, 199 = d1 + A.1 + 3 + 2 := ⟨194 - A.1, by omega⟩
    obtain ⟨d2, hd2⟩ : ∃ d2, 199 = d2 + A.1 + 1 := ⟨198 - A.1, by omega⟩
    obtain ⟨g34, g35, b, r, w1, w2⟩ := fw_187 (d := d2) (al := am) (N := N) (MM := ai_up MM 0 0 0) a3
    rw [← hd2] at w1
    have hho : fd_ho (M 7) 0 A.1 0 = fd_ho (MM 3) 0 A.1 0 := fd_ho_cg A.1 0 0 (fun j hj => (h.court.2.1 j (by omega)).2.2.1)
    have e7 : M 12 p = MM 7 p := (l4 p (by omega)).2.2.1
    rw [if_neg (fun q => fn_b0.mp q hx), if_neg (fun q => fn_b0.mp q hx), bq_120_3, bq_188_3, w1, fb_s, bq_188_4]
    have h15 := fw_15 (d := d1) (al := al) (kl := kl) a2 a4 (by rw [l2]; exact hx)
    rw [← hd1, hho, e7] at h15
    rcases h15 with ⟨hno, M1, q1, q2⟩ | ⟨⟨c1, c2, c3⟩, M1, π, o, wc, least, b1, q1, q2, q3⟩
    · have hr : ¬ r ≤ 0 := by
        rcases w2 with ⟨-, e⟩ | ⟨-, -, e⟩ | ⟨f1, f2, f3, -⟩ | ⟨-, -, -, -, e⟩ | ⟨-, -, -, -, e⟩
        · rw [e]; decide
        · rw [e]; decide
        · exact absurd ⟨f1, f2, f3⟩ hno
        · rw [e]; decide
        · rw [e]; decide
      rw [q1, fb_s, bq_120_4, if_pos rfl, bq_136_0, fb_s, bq_120_5, if_neg hr, bq_144_0, fb_s, bq_188_5]
      have hI := (h.lo q2).no 6
      exact ⟨-1, n, np, t, _, _, rfl, rfl, ⟨by rw [fu_row (by decide)]; exact q2 49 (by omega), by rw [fu_row (by decide), q2 45 (by omega)]⟩, hI⟩
    · have hr : r = 0 := by
        rcases w2 with ⟨f1, -⟩ | ⟨-, f2, -⟩ | ⟨-, -, -, e⟩ | ⟨-, -, f3, -⟩ | ⟨-, -, f3, -⟩
        · omega
        · exact absurd c2 f2
        · exact e
        · exact absurd c3 f3
        · exact absurd c3 f3
      obtain ⟨M2, b2, s1, s2, s3, s4, s5, s6⟩ := fw_29 (D := 197) (al := al) (kl := kl) (v2 := ai_un) (v3 := ai_un) (v4 := ai_un) (by omega) q3
      obtain ⟨f1, f2, f3, f4, f5, f6, f7, f8, f9, f10⟩ := id q3
      have hL : ∀ a, a < 33 ∨ 44 < a → M2 a = M a := fun a ha => by rw [s2.1 a (by omega) (by omega) (by omega) (by omega), q2 a ha]
      obtain ⟨g1, t1, t2⟩ := fl_120 (d := 198) (al := al) (kl := kl) (n := A.1) (b := b2) (π := π) (M := M2) (x2 := nI least) hn (f3.L s2).1.2.2.1 (fun k hk => ⟨s5 k hk, Nat.lt_of_lt_of_le (s3 k hk).1 a2.1.2.1⟩) (fun k hk => by rw [s2.1 34 (by decide) (by decide) (by decide) (by decide)]; exact f2 _ (s3 k hk).1) 8 0 (M2 1) ai_un (by omega) (fun j hj => absurd hj (Nat.not_lt_zero _))
      rw [fn_rw_id] at t1
      have t1' : ai_run 200 120 8 [.ref 0, ai_un, .int (nI least), .int 0] [] (hC al kl M2) = ai_run 200 120 10 [.ref 0, ai_un, .int (nI least), .int (nI 8)] [] (hC al kl (fn_rw M2 1 g1)) := t1
      have s1' : ai_run 199 29 0 [.ref 33, .int (nI least), ai_un, ai_un, ai_un] [] (hC al kl M1) = some (.inl none, hC al kl M2) := s1
      obtain ⟨k34, k35, k36, k37, bb, ar, u1, u2, u3, u4, u5⟩ := fw_188 (am := am) (N := N) (MM := fd_W (ai_up MM 0 0 0) g34 g35 b) a3 c3
      -- the class's, by rooms
      have hVc : fd_Vs A true (fun k => π (b2 k)) := (fd_Vs_N f1 f5 (fun k hk => (s3 k hk).1) (fun _ _ => rfl)).mp s3
      have hVc' := (fd_Vs_iff a4).mp hVc
      have hSc : fd_S A (fun k => π (b2 k)) = least := by rw [← s4]; exact (fd_S_N (fun _ _ => rfl)).symm
      have hlift : ∀ a, fd_V A true a → ∃ c, (∀ k, k < A.1 → c k < A.2.1 ∧ a k = π (c k)) ∧ fd_Vs (fd_N A π true) wc c ∧ fd_S (fd_N A π true) c = fd_S A a := fun a ha => by
        have ha' := (fd_Vs_iff a4).mpr ha
        obtain ⟨c, hc⟩ := fd_lift f1 (fun k hk => (ha' k hk).1)
        exact ⟨c, hc, (fd_Vs_N f1 f5 (fun k hk => (hc k hk).1) (fun k hk => (hc k hk).2)).mpr ha', fd_S_N (fun k hk => (hc k hk).2)⟩
      have hle : least = bb := by
        obtain ⟨c, -, c2, c3⟩ := hlift ar u2
        have h1 := f10 c c2
        rw [c3, u3] at h1
        have h2 := (u5 _ hVc').1
        rw [hSc] at h2
        exact Nat.le_antisymm h1 h2
      have hlx : fd_lx A.1 (fun k => π (b2 k)) ar := fun j hj hp => by
        obtain ⟨c, c1, c2, c3⟩ := hlift ar u2
        have := s6 j hj c c2 (by rw [c3, u3, hle]) (fun i hi => f1.inj (c1 i (show i < A.1 by omega)).1 (s3 i (show i < A.1 by omega)).1 (by rw [← (c1 i (show i < A.1 by omega)).2]; exact hp i hi))
        rw [(c1 j hj).2]
        exact this
      have hsame := fd_lx_un hlx ((u5 _ hVc').2 (by rw [hSc, hle]))
      subst hle
      subst hr
      rw [q1, fb_s, bq_120_4, if_neg (fi_m1 (by omega)), bq_120_6, s1', fb_n, bq_120_7, t1', bq_120_10, bq_137_0, fb_s, bq_120_11, if_pos Int32.le_rfl, u1, bq_188_10, bq_146_0, fb_s, bq_188_11]
      have hI := h.lo hL
      refine ⟨nI least, n, np, t, _, _, rfl, rfl, ⟨by rw [fu_row (by decide)]; exact hL 49 (by omega), by rw [fu_row (by decide)]; exact congrFun (hL 45 (by omega)) 10⟩, ⟨hI.court, hI.land, hI.cal, ⟨hI.now.1, hI.now.2.1, hI.now.2.2.1, rfl, hI.now.2.2.2.2⟩, hI.past, ⟨hI.ldg.1, A.1, hn, a3.1.2.2.2.1, fun j hj => ?_, fun j h1 h2 => ?_⟩, hI.told, hI.plz, hI.tap, hI.que, hI.flt, hI.rul⟩⟩
      · show g1 j = k36 j
        rw [t2 j (by omega), if_pos hj, u4 j hj, ← hsame j hj]
      · show g1 j = -1
        rw [t2 j h2, if_neg (by omega)]
  · rw [if_pos (fn_b0.mpr hx), if_pos (fn_b0.mpr hx), bq_136_0, fb_s, bq_120_2, bq_144_0, fb_s, bq_188_2]
    exact ⟨_, n, np, t, _, _, rfl, rfl, ⟨rfl, rfl⟩, h.no 1⟩
