/-! need -/
theorem fi_le {x : Int32} {n : Nat} (hn : n < 2 ^ 31 - 1) (h0 : 0 ≤ x) (h1 : x ≤ nI n) : ∃ p : Nat, p ≤ n ∧ x = nI p := by
  obtain ⟨p, p1, p2⟩ := fi_of (x := x) (n := n + 1) (by omega) ⟨h0, Int32.lt_of_le_of_lt h1 (nI_lt (by omega) (by omega))⟩
  exact ⟨p, by omega, p2⟩
theorem fs_b {T : Nat → Int32} {B : Nat} : ∀ (m k a : Nat), (∀ j, k ≤ j → j < k + m → ∃ t, t ≤ B ∧ T j = nI t) → ∃ s, s ≤ a + m * B ∧ fn_sm T (nI a) k m = nI s
  | 0, k, a, _ => ⟨a, by omega, rfl⟩
  | m + 1, k, a, h => by
    obtain ⟨t, t1, t2⟩ := h k (by omega) (by omega)
    obtain ⟨s, s1, s2⟩ := fs_b m (k + 1) (a + t) (fun j h1 h2 => h j (by omega) (by omega))
    refine ⟨s, ?_, ?_⟩
    · rw [Nat.succ_mul]; omega
    · show fn_sm T (nI a + T k) (k + 1) m = nI s
      rw [t2, nI_add, s2]
theorem fs_f {ok : Nat → Bool} {su : Nat → Int32} {B : Nat} : ∀ (m r : Nat), (∀ j, r ≤ j → j < r + m → ∃ t, t ≤ B ∧ su j = nI t) → ∃ s, s ≤ B ∧ fn_fs ok su r m = nI s
  | 0, r, _ => ⟨0, Nat.zero_le _, rfl⟩
  | m + 1, r, h => by
    show ∃ s, s ≤ B ∧ (bif ok r then su r else fn_fs ok su (r + 1) m) = nI s
    cases ok r with
    | true => exact h r (by omega) (by omega)
    | false => exact fs_f m (r + 1) (fun j h1 h2 => h j (by omega) (by omega))
/-- what the names stand for is small -/
theorem fV_b {n np t : Nat} {M MM : Nat → Nat → Int32} (h : fn_I n np t M MM) {y day : Nat} (hy : y < n) (hd : day < 200) : ∀ x, ∃ v, v ≤ 199 ∧ fn_V MM y day x = nI v := by
  intro x
  obtain ⟨⟨e1, -, -⟩, e4, e5⟩ := h.court
  obtain ⟨a1, a2, a3, -⟩ := e4 y (by omega)
  obtain ⟨⟨b1, b2⟩, ⟨b3, b4⟩, b5, b6⟩ := e5 y hy
  obtain ⟨c1, c2, ⟨c3, c4⟩, -⟩ := h.cal.2 day hd
  unfold fn_V
  by_cases h0 : x = 0
  · rw [if_pos h0, ← a1]
    obtain ⟨p, p1, p2⟩ := fi_le (n := 9) (by omega) (Int32.le_trans (by decide) b1) b2
    exact ⟨p, by omega, p2⟩
  · rw [if_neg h0]
    by_cases h1 : x = 1
    · rw [if_pos h1, ← a2]
      obtain ⟨p, p1, p2⟩ := fi_le (n := 99) (by omega) (Int32.le_trans (by decide) b3) b4
      exact ⟨p, by omega, p2⟩
    · rw [if_neg h1]
      by_cases h2 : x = 2
      · rw [if_pos h2, ← a3]
        obtain ⟨p, p1, p2⟩ := fi_le (n := 99) (by omega) b5 b6
        exact ⟨p, by omega, p2⟩
      · rw [if_neg h2]
        by_cases h3 : x = 3
        · rw [if_pos h3]
          exact ⟨day, by omega, rfl⟩
        · rw [if_neg h3]
          by_cases h4 : x = 4
          · rw [if_pos h4, ← c1]
            obtain ⟨p, p1, p2⟩ := fi_le (n := 4) (by omega) c3 c4
            exact ⟨p, by omega, p2⟩
          · rw [if_neg h4]
            by_cases h5 : MM 16 day = -1
            · rw [if_pos h5]; exact ⟨0, by omega, rfl⟩
            · rw [if_neg h5]; exact ⟨1, by omega, rfl⟩
def fn_en (MM : Nat → Nat → Int32) (k h day : Nat) (kd : Int32) : Nat := (fn_et MM k h day kd).toNatClampNeg
theorem fe_b {n np t k : Nat} {M MM : Nat → Nat → Int32} (h : fn_I n np t M MM) (hk : k ≤ 10) (hr : fn_RL M MM k) {y day : Nat} (hy : y < n) (hd : day < 200) (kd : Int32) : fn_et MM k y day kd = nI (fn_en MM k y day kd) ∧ fn_en MM k y day kd ≤ 795204 := by
  have key : ∃ s, s ≤ 795204 ∧ fn_et MM k y day kd = nI s := by
    unfold fn_et
    rcases fc_in MM k day with e | ⟨o, o1, o2⟩
    · rw [e, if_pos (by decide)]; exact ⟨0, by omega, rfl⟩
    · obtain ⟨-, m, m1, m2, m3, m4⟩ := hr o o1
      rw [o2, if_neg (nI_pos (by omega)), nI_clamp (by omega)]
      unfold fn_ea
      rw [m3, nI_clamp (by omega)]
      refine fs_f m 0 (fun r h1 h2 => ?_)
      obtain ⟨-, -, u, u1, u2, u3, u4⟩ := m4 r (by omega)
      unfold fn_su
      rw [u3, nI_clamp (by omega)]
      obtain ⟨s, s1, s2⟩ := fs_b (T := fn_T MM (fn_V MM y day) (12 * o + r)) (B := 198801) u 0 0 (fun j h3 h4 => by
        obtain ⟨⟨g1, g2, g3⟩, g4⟩ := u4 j (by omega)
        obtain ⟨a, a1, a2⟩ := fi_le (n := 999) (by omega) g2 g3
        unfold fn_T
        rw [a2]
        rcases g4 with ⟨e1, -⟩ | ⟨x, x1, x2, -⟩
        · rw [if_pos e1]
          exact ⟨a * 1, by omega, pk_mul a 1⟩
        · rw [x2, if_neg (fi_m1 (by omega)), nI_clamp (by omega)]
          obtain ⟨v, v1, v2⟩ := fV_b h hy hd x
          rw [v2, pk_mul]
          refine ⟨a * v, ?_, rfl⟩
          have := Nat.mul_le_mul a1 v1
          omega)
      exact ⟨s, by omega, s2⟩
  obtain ⟨s, s1, s2⟩ := key
  unfold fn_en
  rw [s2, nI_clamp (by omega)]
  exact ⟨rfl, s1⟩
/-- all that is eaten on a day by the first households -/
def fn_nt (MM : Nat → Nat → Int32) (k day : Nat) : Nat → Nat
  | 0 => 0
  | h + 1 => fn_nt MM k day h + ((MM 2 h).toNatClampNeg * fn_en MM k h day 0 + (MM 3 h).toNatClampNeg * fn_en MM k h day 1)
def fn_nd (MM : Nat → Nat → Int32) (k n day : Nat) : Nat := min (fn_nt MM k day n) 1000000
def fn_need (MM : Nat → Nat → Int32) (day : Nat) : Nat := fn_nd MM (MM 0 41).toNatClampNeg (MM 0 4).toNatClampNeg day
theorem fn_need_le (MM : Nat → Nat → Int32) (day : Nat) : fn_need MM day ≤ 1000000 := Nat.min_le_right _ _
theorem fn_en_cg {MM MM' : Nat → Nat → Int32} {k y day : Nat} {kd : Int32} (h : ∀ a, a ∈ [1, 2, 3, 15, 16, 24, 25, 26, 27, 28, 29, 30, 31, 32, 33] → MM' a = MM a) : fn_en MM' k y day kd = fn_en MM k y day kd := by
  unfold fn_en fn_et fn_fc fn_ea fn_ok fn_su fn_P fn_T fn_V
  rw [h 1 (by decide), h 2 (by decide), h 3 (by decide), h 15 (by decide), h 16 (by decide), h 24 (by decide), h 25 (by decide), h 26 (by decide), h 27 (by decide), h 28 (by decide), h 29 (by decide), h 30 (by decide), h 31 (by decide), h 32 (by decide), h 33 (by decide)]
theorem fn_nt_cg {MM MM' : Nat → Nat → Int32} {k day : Nat} (h : ∀ a, a ∈ [1, 2, 3, 15, 16, 24, 25, 26, 27, 28, 29, 30, 31, 32, 33] → MM' a = MM a) : ∀ y, fn_nt MM' k day y = fn_nt MM k day y
  | 0 => rfl
  | y + 1 => by
    show fn_nt MM' k day y + ((MM' 2 y).toNatClampNeg * fn_en MM' k y day 0 + (MM' 3 y).toNatClampNeg * fn_en MM' k y day 1) = fn_nt MM k day y + ((MM 2 y).toNatClampNeg * fn_en MM k y day 0 + (MM 3 y).toNatClampNeg * fn_en MM k y day 1)
    rw [fn_nt_cg h y, fn_en_cg h, fn_en_cg h, h 2 (by decide), h 3 (by decide)]
theorem fn_need_cg {MM MM' : Nat → Nat → Int32} (h : ∀ a, a ∈ [1, 2, 3, 15, 16, 24, 25, 26, 27, 28, 29, 30, 31, 32, 33] → MM' a = MM a) (h41 : MM' 0 41 = MM 0 41) (h4 : MM' 0 4 = MM 0 4) (day : Nat) : fn_need MM' day = fn_need MM day := by
  unfold fn_need fn_nd
  rw [h41, h4, fn_nt_cg h]
theorem fn_need_z (MM : Nat → Nat → Int32) (day : Nat) : fn_need (ai_up MM 0 0 0) day = fn_need MM day := fn_need_cg (MM := MM) (MM' := ai_up MM 0 0 0) (fun a ha => by
  have : a ≠ 0 := fun e => by rw [e] at ha; exact absurd ha (by decide)
  exact if_neg this) rfl rfl day
theorem fm_b {n np t : Nat} {M MM : Nat → Nat → Int32} (h : fn_I n np t M MM) {y : Nat} (hy : y < n) : ∃ a b, a ≤ 99 ∧ b ≤ 99 ∧ MM 2 y = nI a ∧ MM 3 y = nI b ∧ M 6 y = nI a ∧ M 7 y = nI b := by
  obtain ⟨⟨e1, -, -⟩, e4, e5⟩ := h.court
  obtain ⟨a1, a2, a3, -⟩ := e4 y (by omega)
  obtain ⟨⟨b1, b2⟩, ⟨b3, b4⟩, b5, b6⟩ := e5 y hy
  obtain ⟨a, p1, p2⟩ := fi_le (n := 99) (by omega) (Int32.le_trans (by decide) b3) b4
  obtain ⟨b, q1, q2⟩ := fi_le (n := 99) (by omega) b5 b6
  exact ⟨a, b, p1, q1, a2 ▸ p2, a3 ▸ q2, p2, q2⟩
theorem ft_b {n np t k : Nat} {M MM : Nat → Nat → Int32} (h : fn_I n np t M MM) (hk : k ≤ 10) (hr : fn_RL M MM k) {day : Nat} (hd : day < 200) : ∀ y, y ≤ n → fn_nt MM k day y ≤ y * 157450392
  | 0, _ => Nat.zero_le _
  | y + 1, hy => by
    have ih := ft_b h hk hr hd y (by omega)
    obtain ⟨a, b, a1, b1, a2, b2, -, -⟩ := fm_b h (y := y) (by omega)
    have f0 := (fe_b h hk hr (y := y) (by omega) hd 0).2
    have f1 := (fe_b h hk hr (y := y) (by omega) hd 1).2
    show fn_nt MM k day y + ((MM 2 y).toNatClampNeg * fn_en MM k y day 0 + (MM 3 y).toNatClampNeg * fn_en MM k y day 1) ≤ _
    rw [a2, b2, nI_clamp (by omega), nI_clamp (by omega)]
    have g0 := Nat.mul_le_mul a1 f0
    have g1 := Nat.mul_le_mul b1 f1
    omega
theorem fw_213 {d : Nat} {hp : ai_Hp} {T : Nat} (hT : T < 2 ^ 31) {v1 v3 : Value} : ai_run d 213 0 [.long (lN T), v1, .long ((1000000 : Int32).toInt64), v3] [] hp = some (.inl (some (.long (lN (min T 1000000)))), hp) := by
  have e : (1000000 : Int32).toInt64 = lN 1000000 := nI_l (n := 1000000) (by omega)
  rw [bq_213_0, e]
  by_cases c : 1000000 < T
  · rw [if_pos ((lg_cmp_gt _ _).mpr ((lN_lt (by omega) hT).mpr c)), bq_213_1, bq_213_2, Nat.min_eq_right (by omega)]
  · rw [if_neg (fun q => c ((lN_lt (by omega) hT).mp ((lg_cmp_gt _ _).mp q))), bq_213_2, Nat.min_eq_left (by omega)]
theorem fl_81 {d : Nat} {al : Nat × Nat} {kl n np t k o day : Nat} {M MM : Nat → Nat → Int32} (h : fn_I n np t M MM) (hd : day < 200) (hk : k ≤ 10) (hr : fn_RL M MM k) (hs : M 23 2 = nI k) (ho : o < k) (hf : fn_fc MM k day = nI o) : ∀ (m y : Nat) (g : Nat → Int32) (v1 v4 : Value), y + m = n → g 3 = nI day → g 4 = MM 15 day → (g 5 = if MM 16 day = -1 then 0 else 1) → g 6 = 1 → ∃ g' : Nat → Int32, g' 6 = 1 ∧ ai_run (d + 3) 81 4 [.ref 23, v1, .int (nI o), .long (lN (fn_nt MM k day y)), v4, .int (nI y)] [] (hC al kl (fn_rw M 27 g)) = some (.inl (some (.int (nI (fn_nd MM k n day)))), hC al kl (fn_rw M 27 g'))
  | 0, y, g, v1, v4, hy, g3, g4, g5, g6 => by
    have : y = n := by omega
    subst this
    have hb := ft_b h hk hr hd y (Nat.le_refl _)
    obtain ⟨⟨e1, e2, e3⟩, e4, e5⟩ := h.court
    refine ⟨g, g6, ?_⟩
    rw [bq_81_4, show (fn_rw M 27 g) 4 0 = nI y from e2, if_pos Int32.le_rfl, bq_81_10, fw_213 (by omega), fb_s, bq_81_11, lN_i]
    rfl
  | m + 1, y, g, v1, v4, hy, g3, g4, g5, g6 => by
    obtain ⟨⟨e1, e2, e3⟩, e4, e5⟩ := h.court
    obtain ⟨-, mm, m1, m2, m3, m4⟩ := hr o ho
    have c1 := e4 y (by omega)
    obtain ⟨a, b, a1, b1, a2, b2, a3, b3⟩ := fm_b h (y := y) (by omega)
    have w2 := fw_83 (d := d + 1) (al := al) (kl := kl) (M := M) (MM := MM) (g := g) e1 (show y < n by omega) e2 c1.1 c1.2.1 c1.2.2.1
    have w3 : ∀ kd : Int32, ai_run (d + 2) 84 0 [.ref 23, .int (nI o), .int kd, ai_un, ai_un] [] (hC al kl (fn_rw M 27 (fn_vh MM y g))) = some (.inl (some (.int (nI (fn_en MM k y day kd)))), hC al kl (fn_rw M 27 (fn_vh MM y g))) := fun kd => by
      have q := fw_84 (d := d) (al := al) (kl := kl) (kd := kd) (M := fn_rw M 27 (fn_vh MM y g)) (MM := MM) (V := fn_V MM y day) (v3 := ai_un) (v4 := ai_un) (k := k) hs hk ho m1 m2 m3 (fn_vv (h := y) (day := day) (g := g) g3 g4 g5) g6 m4
      rw [q, ← (fe_b h hk hr (y := y) (by omega) hd kd).1]
      unfold fn_et
      rw [hf, if_neg (nI_pos (by omega)), nI_clamp (by omega)]
    have f0 := (fe_b h hk hr (y := y) (by omega) hd 0).2
    have f1 := (fe_b h hk hr (y := y) (by omega) hd 1).2
    have i8 : ai_in (nI y) 8 = true := by rw [fi_in (by omega)]; exact decide_eq_true (by omega)
    have en : fn_nt MM k day (y + 1) = fn_nt MM k day y + a * fn_en MM k y day 0 + b * fn_en MM k y day 1 := by
      show fn_nt MM k day y + ((MM 2 y).toNatClampNeg * fn_en MM k y day 0 + (MM 3 y).toNatClampNeg * fn_en MM k y day 1) = _
      rw [a2, b2, nI_clamp (by omega), nI_clamp (by omega), Nat.add_assoc]
    obtain ⟨g', p1, p2⟩ := fl_81 (d := d) (al := al) (kl := kl) h hd hk hr hs ho hf m (y + 1) (fn_vh MM y g) ai_un ai_un (by omega) g3 g4 g5 g6
    refine ⟨g', p1, ?_⟩
    rw [bq_81_4, show (fn_rw M 27 g) 4 0 = nI n from e2, if_neg (nI_ge (by omega) (by omega)), w2, fb_n, bq_81_5, i8, cond_true, w3 0, fb_s, bq_81_6, i8, cond_true, nI_clamp (by omega), show (fn_rw M 27 (fn_vh MM y g)) 6 y = nI a from a3, show (fn_rw M 27 (fn_vh MM y g)) 7 y = nI b from b3, nI_l (by omega), nI_l (by omega), lN_mul, lN_add]
    by_cases hb0 : b = 0
    · subst hb0
      rw [if_pos (show nI 0 = 0 from rfl), bq_81_9, show Int64.ofNat 0 = lN 0 from rfl, lN_add, nI_1, ← p2, en, Nat.zero_mul]
    · rw [if_neg (nI_ne0 (by omega) (by omega)), bq_81_7, i8, cond_true, nI_clamp (by omega), show (fn_rw M 27 (fn_vh MM y g)) 7 y = nI b from b3, w3 1, fb_s, bq_81_8, bq_81_9, nI_l (by omega), nI_l (by omega), lN_mul, lN_add, nI_1, ← p2, en]
theorem fw_81 {d : Nat} {al : Nat × Nat} {kl n np t day : Nat} {M MM : Nat → Nat → Int32} (h : fn_I n np t M MM) (hd : day < 200) {v2 v3 v4 v5 : Value} : ∃ g' : Nat → Int32, g' 6 = 1 ∧ ai_run (d + 3) 81 0 [.ref 23, .int (nI day), v2, v3, v4, v5] [] (hC al kl M) = some (.inl (some (.int (nI (fn_need MM day)))), hC al kl (fn_rw M 27 g')) := by
  obtain ⟨k0, k, k1, k2, k3, k4⟩ := h.rul
  obtain ⟨⟨e1, e2, e3⟩, e4, e5⟩ := h.court
  have en : fn_need MM day = fn_nd MM k n day := by
    unfold fn_need
    rw [k3, e3, nI_clamp (by omega), nI_clamp (by omega)]
  rw [bq_81_0, fw_79 (MM := MM) k1 k2 (fun o ho => (k4 o ho).1), fb_s, bq_81_1, en]
  rcases fc_in MM k day with e | ⟨o, o1, o2⟩
  · refine ⟨M 27, k0, ?_⟩
    have z : ∀ y, fn_nt MM k day y = 0 := by
      intro y
      induction y with
      | zero => rfl
      | succ y ih =>
        have ez : ∀ kd, fn_en MM k y day kd = 0 := fun kd => by
          unfold fn_en fn_et
          rw [e, if_pos (by decide)]
          rfl
        show fn_nt MM k day y + ((MM 2 y).toNatClampNeg * fn_en MM k y day 0 + (MM 3 y).toNatClampNeg * fn_en MM k y day 1) = 0
        rw [ih, ez, ez, Nat.mul_zero, Nat.mul_zero]
    rw [e, if_neg (by decide), fn_rw_id]
    unfold fn_nd
    rw [z]
    rfl
  · have c2 := h.cal.2 day hd
    have w1 := fw_82 (d := d) (al := al) (kl := kl) (M := M) (MM := MM) (g := M 27) hd c2.1 c2.2.1
    rw [fn_rw_id] at w1
    obtain ⟨g', p1, p2⟩ := fl_81 (d := d) (al := al) (kl := kl) h hd k1 k4 k2 o1 o2 n 0 (fn_vd MM day (M 27)) ai_un ai_un (by omega) rfl rfl rfl k0
    refine ⟨g', p1, ?_⟩
    rw [o2, if_pos (nI_pos' (by omega)), bq_81_2, w1, fb_n, bq_81_3]
    exact p2
theorem fl_182 {d : Nat} {al : Nat × Nat} {N : Nat → Nat → Int64} {n np t k day : Nat} {M MM : Nat → Nat → Int32} (h : fn_I n np t M MM) (hd : day < 200) (hk : k ≤ 10) (h41 : MM 0 41 = nI k) (hr : fn_RL M MM k) : ∀ (m y : Nat) (v3 : Value), y + m = n → ai_run (d + 2) 182 1 [.ref 0, .int (nI day), .long (lN (fn_nt MM k day y)), v3, .int (nI y)] [] (hM al MM N) = some (.inl (some (.int (nI (fn_nd MM k n day)))), hM al MM N)
  | 0, y, v3, hy => by
    have : y = n := by omega
    subst this
    have hb := ft_b h hk hr hd y (Nat.le_refl _)
    obtain ⟨⟨e1, e2, e3⟩, e4, e5⟩ := h.court
    rw [bq_182_1, e3, if_pos Int32.le_rfl, bq_182_4, fw_213 (by omega), fb_s, bq_182_5, lN_i]
    rfl
  | m + 1, y, v3, hy => by
    obtain ⟨⟨e1, e2, e3⟩, e4, e5⟩ := h.court
    obtain ⟨a, b, a1, b1, a2, b2, a3, b3⟩ := fm_b h (y := y) (by omega)
    have f0 := fe_b h hk hr (y := y) (by omega) hd 0
    have f1 := fe_b h hk hr (y := y) (by omega) hd 1
    have i8 : ai_in (nI y) 8 = true := by rw [fi_in (by omega)]; exact decide_eq_true (by omega)
    have en : fn_nt MM k day (y + 1) = fn_nt MM k day y + (a * fn_en MM k y day 0 + b * fn_en MM k y day 1) := by
      show fn_nt MM k day y + ((MM 2 y).toNatClampNeg * fn_en MM k y day 0 + (MM 3 y).toNatClampNeg * fn_en MM k y day 1) = _
      rw [a2, b2, nI_clamp (by omega), nI_clamp (by omega)]
    rw [bq_182_1, e3, if_neg (nI_ge (by omega) (by omega)), i8, cond_true, nI_clamp (by omega), fw_180 (M := M) (show y < 8 by omega) hd hk h41 hr, fb_s, bq_182_2, i8, cond_true, nI_clamp (by omega), fw_180 (M := M) (show y < 8 by omega) hd hk h41 hr, fb_s, bq_182_3, f0.1, f1.1, a2, b2, nI_l (by omega), nI_l (by omega), nI_l (by omega), nI_l (by omega), lN_mul, lN_mul, lN_add, lN_add, nI_1, ← en, fl_182 h hd hk h41 hr m (y + 1) _ (by omega)]
theorem fw_182 {d : Nat} {al : Nat × Nat} {N : Nat → Nat → Int64} {n np t day : Nat} {M MM : Nat → Nat → Int32} (h : fn_I n np t M MM) (hd : day < 200) {v2 v3 v4 : Value} : ai_run (d + 2) 182 0 [.ref 0, .int (nI day), v2, v3, v4] [] (hM al MM N) = some (.inl (some (.int (nI (fn_need MM day)))), hM al MM N) := by
  obtain ⟨k0, k, k1, k2, k3, k4⟩ := h.rul
  obtain ⟨⟨e1, e2, e3⟩, e4, e5⟩ := h.court
  have en : fn_need MM day = fn_nd MM k n day := by
    unfold fn_need
    rw [k3, e3, nI_clamp (by omega), nI_clamp (by omega)]
  rw [bq_182_0, en]
  exact fl_182 (d := d) (al := al) (N := N) h hd k1 k3 k4 n 0 ai_un (by omega)
theorem ft_119 {n np t : Nat} {M MM : Nat → Nat → Int32} (h : fn_I n np t M MM) (x : Int32) : fn_S 119 183 [.int x] M MM := by
  intro al am kl N
  rw [show ai_ent (ai_mx 119) [.ref 0, .int x] = [.ref 0, .int x] from rfl, show ai_ent (ai_mx 183) [.ref 0, .int x] = [.ref 0, .int x] from rfl]
  rw [bq_119_0, fw_141, fb_s, bq_119_1, bq_183_0, fw_152, fb_s, bq_183_1]
  by_cases hx : 0 ≤ x ∧ x < 200
  · obtain ⟨p, p1, p2⟩ := fi_of (n := 200) (by omega) hx
    obtain ⟨g, g1, g2⟩ := fw_81 (d := 196) (al := al) (kl := kl) (v2 := ai_un) (v3 := ai_un) (v4 := ai_un) (v5 := ai_un) h p1
    rw [if_neg (fun q => fn_b0.mp q hx), if_neg (fun q => fn_b0.mp q hx), p2, g2, fw_182 h.z p1, fn_need_z, fb_s, fb_s, bq_119_2, bq_119_4, bq_183_2, bq_183_4]
    exact ⟨nI (fn_need MM p), n, np, t, _, _, rfl, rfl, ⟨rfl, rfl⟩, (h.val g1).z⟩
  · rw [if_pos (fn_b0.mpr hx), if_pos (fn_b0.mpr hx), bq_119_3, bq_119_4, bq_183_3, bq_183_4]
    exact ⟨_, n, np, t, _, _, rfl, rfl, ⟨rfl, rfl⟩, h.z⟩
