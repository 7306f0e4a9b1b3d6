/-! lodgings: why there is none -/
theorem fn_I.lo {n np t : Nat} {M M' MM : Nat → Nat → Int32} (h : fn_I n np t M MM) (e : ∀ a, a < 33 ∨ 44 < a → M' a = M a) : fn_I n np t M' MM := by
  unfold fn_I
  rw [e 0 (by omega), e 1 (by omega), e 2 (by omega), e 3 (by omega), e 4 (by omega), e 5 (by omega), e 6 (by omega), e 7 (by omega), e 8 (by omega), e 9 (by omega), e 10 (by omega), e 11 (by omega), e 12 (by omega), e 13 (by omega), e 14 (by omega), e 15 (by omega), e 16 (by omega), e 17 (by omega), e 18 (by omega), e 19 (by omega), e 20 (by omega), e 21 (by omega), e 22 (by omega), e 23 (by omega), e 24 (by omega), e 25 (by omega), e 26 (by omega), e 27 (by omega), e 28 (by omega), e 29 (by omega), e 31 (by omega), e 32 (by omega), e 45 (by omega), e 50 (by omega), e 51 (by omega), e 52 (by omega), e 53 (by omega), e 54 (by omega)]
  exact h
theorem fn_I.W {n np t : Nat} {M MM : Nat → Nat → Int32} (h : fn_I n np t M MM) (g34 g35 : Nat → Int32) (b : Int32) : fn_I n np t M (fd_W MM g34 g35 b) := h
theorem fd_W_id {MM : Nat → Nat → Int32} : fd_W MM (MM 34) (MM 35) (MM 0 52) = MM := by
  funext a j
  unfold fd_W
  by_cases h0 : a = 0
  · subst h0
    by_cases hj : j = 52
    · subst hj; exact fu_at
    · rw [fu_ne hj]; rfl
  · rw [fu_row h0]
    by_cases h1 : a = 35
    · subst h1; rfl
    · by_cases h2 : a = 34
      · subst h2; rfl
      · simp [fn_rw, h1, h2]
theorem fi_cl {x : Int32} {n : Nat} (hn : n < 2 ^ 31 - 1) (h0 : 0 ≤ x) (h1 : x ≤ nI n) : x = nI x.toNatClampNeg ∧ x.toNatClampNeg ≤ n := by
  obtain ⟨p, p1, p2⟩ := fi_le hn h0 h1
  rw [p2, nI_clamp (by omega)]
  exact ⟨rfl, p1⟩
theorem fd_of {n np t p : Nat} {M MM : Nat → Nat → Int32} (h : fn_I n np t M MM) (hp : p < np) : ∃ A : fd_A, A.1 = n ∧ fd_Zc A p M ∧ fd_Zm A p MM ∧ fd_By A := by
  obtain ⟨⟨c1, c2, c3⟩, c4, c5⟩ := h.court
  obtain ⟨⟨l1, l2, l3⟩, l4, l5, -, l6, -⟩ := h.land
  obtain ⟨-, -, -, q, q1, q2, q3⟩ := l6 p (by omega)
  have hA : fd_Zc (n, q, fun h => (M 6 h).toNatClampNeg, fun h => (M 5 h).toNatClampNeg, fun h k => fn_bt (M 8 h) k, fun r => (M 17 (10 * p + r)).toNatClampNeg, fun r => (M 16 (10 * p + r)).toNatClampNeg, fun r => (M 18 (10 * p + r)).toNatClampNeg) p M := by
    refine ⟨⟨c1, q1, by omega, c2, q2⟩, fun h hh => ?_, fun r hr => ?_⟩
    · obtain ⟨⟨a1, a2⟩, ⟨a3, a4⟩, -⟩ := c5 h hh
      have e1 := fi_cl (n := 9) (by omega) (Int32.le_trans (by decide) a1) a2
      have e2 := fi_cl (n := 99) (by omega) (Int32.le_trans (by decide) a3) a4
      have hh8 : h < 8 := Nat.lt_of_lt_of_le hh c1
      obtain ⟨-, -, -, -, b1, b2⟩ := c4 h hh8
      obtain ⟨v, v1, v2⟩ := fi_of (n := 256) (by omega) ⟨b1, b2⟩
      refine ⟨e1, e2, v, v1, v2, fun k hk => ?_⟩
      show v.testBit k = fn_bt (M 8 h) k
      rw [v2]
      exact (fd_t v (by omega) k (by omega)).1.symm
    · obtain ⟨⟨a1, a2⟩, ⟨a3, a4⟩, a5, a6⟩ := q3 r hr
      exact ⟨fi_cl (n := 3) (by omega) a3 a4, fi_cl (n := 9) (by omega) (Int32.le_trans (by decide) a1) a2, fi_cl (n := 99) (by omega) a5 a6⟩
  have hs := h.ldg.1
  refine ⟨_, rfl, hA, ?_, fun i k hi hk => hs i k (Nat.lt_of_lt_of_le hi c1) (Nat.lt_of_lt_of_le hk c1)⟩
  · obtain ⟨⟨z1, z2, z3, z4, z5⟩, zh, zr⟩ := hA
    refine ⟨⟨z1, z2, z3, c3, ?_⟩, fun h hh => ?_, fun r hr => ?_⟩
    · rw [← (l4 p z3).2.2.2.2.2]; exact z5
    · have hh8 : h < 8 := Nat.lt_of_lt_of_le hh c1
      obtain ⟨e1, e2, -, e4, -⟩ := c4 h hh8
      rw [← e1, ← e2, ← e4]; exact zh h hh
    · have hr10 : r < 10 := Nat.lt_of_lt_of_le hr z2
      obtain ⟨e1, e2, e3⟩ := l5 (10 * p + r) (by omega)
      rw [← e1, ← e2, ← e3]; exact zr r hr
def fd_ho (f : Nat → Int32) : Nat → Nat → Int32 → Int32
  | _, 0, x => x
  | k, m + 1, x => fd_ho f (k + 1) m (x + f k)
theorem fd_ho_cg {f g : Nat → Int32} : ∀ (m k : Nat) (x : Int32), (∀ j, j < k + m → f j = g j) → fd_ho f k m x = fd_ho g k m x
  | 0, _, _, _ => rfl
  | m + 1, k, x, h => by
    show fd_ho f (k + 1) m (x + f k) = fd_ho g (k + 1) m (x + g k)
    rw [h k (by omega), fd_ho_cg m (k + 1) _ (fun j hj => h j (by omega))]
theorem fl_11 {d : Nat} {al : Nat × Nat} {kl n : Nat} {M : Nat → Nat → Int32} (hn : n ≤ 8) (h4 : M 4 0 = nI n) : ∀ (m k : Nat) (x : Int32), k + m = n → ai_run d 11 1 [.ref 4, .int x, .int (nI k)] [] (hC al kl M) = some (.inl (some (.int (fd_ho (M 7) k m x))), hC al kl M)
  | 0, k, x, hk => by
    have e : k = n := by omega
    rw [bq_11_1, h4, e, if_pos Int32.le_rfl, bq_11_2]; rfl
  | m + 1, k, x, hk => by
    rw [bq_11_1, h4, if_neg (nI_ge (by omega) (by omega)), fi_in (by omega), decide_eq_true (by omega), cond_true, nI_clamp (by omega), nI_1, fl_11 hn h4 m (k + 1) _ (by omega)]; rfl
theorem fw_11 {d : Nat} {al : Nat × Nat} {kl n : Nat} {M : Nat → Nat → Int32} (hn : n ≤ 8) (h4 : M 4 0 = nI n) {v1 v2 : Value} : ai_run d 11 0 [.ref 4, v1, v2] [] (hC al kl M) = some (.inl (some (.int (fd_ho (M 7) 0 n 0))), hC al kl M) := by
  rw [bq_11_0]
  exact fl_11 hn h4 n 0 0 (by omega)
theorem fl_187 {d : Nat} {al : Nat × Nat} {N : Nat → Nat → Int64} {n : Nat} {M : Nat → Nat → Int32} (hn : n ≤ 8) (h4 : M 0 4 = nI n) {x1 : Int32} : ∀ (m k : Nat) (x : Int32), k + m = n → ai_run d 187 1 [.ref 0, .int x1, .int x, .int (nI k)] [] (hM al M N) = ai_run d 187 2 [.ref 0, .int x1, .int (fd_ho (M 3) k m x), .int (nI n)] [] (hM al M N)
  | 0, k, x, hk => by
    have e : k = n := by omega
    rw [bq_187_1, h4, e, if_pos Int32.le_rfl]; rfl
  | m + 1, k, x, hk => by
    rw [bq_187_1, h4, if_neg (nI_ge (by omega) (by omega)), fi_in (by omega), decide_eq_true (by omega), cond_true, nI_clamp (by omega), nI_1, fl_187 hn h4 m (k + 1) _ (by omega)]; rfl
/-- why there is no lodging -/
def fd_wy (A : fd_A) (c : Prop) (r : Int32) : Prop := (A.2.1 < A.1 ∧ r = 1) ∨ (A.1 ≤ A.2.1 ∧ ¬ c ∧ r = 2) ∨ (A.1 ≤ A.2.1 ∧ c ∧ (∃ a, fd_V A true a) ∧ r = 0) ∨ (A.1 ≤ A.2.1 ∧ c ∧ (¬ ∃ a, fd_V A true a) ∧ (∃ a, fd_V A false a) ∧ r = 4) ∨ (A.1 ≤ A.2.1 ∧ c ∧ (¬ ∃ a, fd_V A true a) ∧ (¬ ∃ a, fd_V A false a) ∧ r = 3)
theorem fd_wy.un {A : fd_A} {c : Prop} {r r' : Int32} (h : fd_wy A c r) (h' : fd_wy A c r') : r = r' := by
  rcases h with ⟨a1, a2⟩ | ⟨a1, a2, a3⟩ | ⟨a1, a2, a3, a4⟩ | ⟨a1, a2, a3, a4, a5⟩ | ⟨a1, a2, a3, a4, a5⟩ <;> rcases h' with ⟨b1, b2⟩ | ⟨b1, b2, b3⟩ | ⟨b1, b2, b3, b4⟩ | ⟨b1, b2, b3, b4, b5⟩ | ⟨b1, b2, b3, b4, b5⟩ <;> first | (exact absurd a1 (by omega)) | (exact absurd a2 b2) | (exact absurd b2 a2) | (exact absurd a3 b3) | (exact absurd b3 a3) | (exact absurd a4 b4) | (exact absurd b4 a4) | (simp only [*])
theorem fd_X0 {A : fd_A} {rk : Bool} {c : Nat → Nat} : (∃ a, fd_X A rk 0 c a) ↔ ∃ a, fd_V A rk a := ⟨fun ⟨a, a1, _⟩ => ⟨a, a1⟩, fun ⟨a, a1⟩ => ⟨a, a1, fun k hk => absurd hk (Nat.not_lt_zero _)⟩⟩
theorem fw_187 {d : Nat} {al : Nat × Nat} {N : Nat → Nat → Int64} {p : Nat} {A : fd_A} {MM : Nat → Nat → Int32} (hz : fd_Zm A p MM) : ∃ (g34 g35 : Nat → Int32) (b r : Int32), ai_run (d + A.1 + 1) 187 0 [.ref 0, .int (nI p), ai_un, ai_un] [] (hM al MM N) = some (.inl (some (.int r)), hM al (fd_W MM g34 g35 b) N) ∧ fd_wy A (fd_ho (MM 3) 0 A.1 0 ≤ MM 7 p) r := by
  obtain ⟨⟨z1, z2, z3, z4, z5⟩, zh, zr⟩ := id hz
  have i9 : ai_in (nI p) 9 = true := by rw [fi_in (by omega)]; exact decide_eq_true z3
  have run1 : ai_run (d + A.1 + 1) 187 0 [.ref 0, .int (nI p), ai_un, ai_un] [] (hM al MM N) = ai_run (d + A.1 + 1) 187 2 [.ref 0, .int (nI p), .int (fd_ho (MM 3) 0 A.1 0), .int (nI A.1)] [] (hM al MM N) := by
    rw [bq_187_0]
    exact fl_187 z1 z4 A.1 0 0 (by omega)
  rw [run1, bq_187_2, i9, cond_true, nI_clamp (by omega), z4, z5]
  by_cases c1 : A.1 ≤ A.2.1
  · rw [if_pos (nI_le c1 (by omega)), bq_187_3, i9, cond_true, nI_clamp (by omega)]
    by_cases c2 : fd_ho (MM 3) 0 A.1 0 ≤ MM 7 p
    · rw [if_pos c2, bq_187_4]
      obtain ⟨g1, g2, b1, f1, q1, -, q3⟩ := fd_any (al := al) (N := N) (rk := true) hz A.1 0 d (by omega) (fun _ => 0) (MM 34) (MM 35) (MM 0 52) 0 ai_un ai_un ai_un (fun k hk => absurd hk (Nat.not_lt_zero _))
      rw [fd_W_id] at q1
      have q1' : ai_run (d + A.1) 185 0 [.ref 0, .int (nI p), .int 0, .int 0, .int 1, .int 1, ai_un, ai_un, ai_un] [] (hM al MM N) = some (.inl (some (.int (fn_bi f1))), hM al (fd_W MM g1 g2 b1) N) := q1
      rw [fd_X0] at q3
      rw [q1', fb_s, bq_187_5]
      cases f1 with
      | true => exact ⟨g1, g2, b1, 0, by rw [if_neg (show ¬ fn_bi true = 0 by decide)], Or.inr (Or.inr (Or.inl ⟨c1, c2, q3.mp rfl, rfl⟩))⟩
      | false =>
        have n1 : ¬ ∃ a, fd_V A true a := fun z => absurd (q3.mpr z) (by decide)
        obtain ⟨g3, g4, b3, f2, w1, -, w3⟩ := fd_any (al := al) (N := N) (rk := false) hz A.1 0 d (by omega) (fun _ => 0) g1 g2 b1 0 ai_un ai_un ai_un (fun k hk => absurd hk (Nat.not_lt_zero _))
        have w1' : ai_run (d + A.1) 185 0 [.ref 0, .int (nI p), .int 0, .int 0, .int 0, .int 1, ai_un, ai_un, ai_un] [] (hM al (fd_W MM g1 g2 b1) N) = some (.inl (some (.int (fn_bi f2))), hM al (fd_W MM g3 g4 b3) N) := w1
        rw [fd_X0] at w3
        rw [if_pos (show fn_bi false = 0 from rfl), bq_187_6, w1', fb_s, bq_187_7]
        cases f2 with
        | true => exact ⟨g3, g4, b3, 4, by rw [if_neg (show ¬ fn_bi true = 0 by decide), bq_187_9], Or.inr (Or.inr (Or.inr (Or.inl ⟨c1, c2, n1, w3.mp rfl, rfl⟩)))⟩
        | false => exact ⟨g3, g4, b3, 3, by rw [if_pos (show fn_bi false = 0 from rfl), bq_187_8, bq_187_9], Or.inr (Or.inr (Or.inr (Or.inr ⟨c1, c2, n1, fun z => absurd (w3.mpr z) (by decide), rfl⟩)))⟩
    · exact ⟨MM 34, MM 35, MM 0 52, 2, by rw [if_neg c2, fd_W_id], Or.inr (Or.inl ⟨c1, c2, rfl⟩)⟩
  · exact ⟨MM 34, MM 35, MM 0 52, 1, by rw [if_neg (nI_ge (by omega) (by omega)), fd_W_id], Or.inl ⟨by omega, rfl⟩⟩
/-! by spots and by rooms -/
def fd_wk (A : fd_A) (rk wc : Bool) : Prop := wc = rk ∨ (wc = false ∧ ∀ h k, h < A.1 → k < A.1 → A.2.2.2.1 h = A.2.2.2.1 k)
theorem fd_cb_N {A : fd_A} {π : Nat → Nat} {rk wc wd : Bool} (hπ : fd_pm A.2.1 π) (hw : fd_wk A rk wc) {h x k y : Nat} (hh : h < A.1) (hk : k < A.1) (hx : x < A.2.1) (hy : y < A.2.1) : fd_cb (fd_N A π wd) wc h x k y = true ↔ fd_cb A rk h (π x) k (π y) = true := by
  rw [fd_cb_iff, fd_cb_iff]
  show x ≠ y ∧ (A.2.2.2.2.1 h k = true → A.2.2.2.2.2.1 (π x) ≠ A.2.2.2.2.2.1 (π y)) ∧ (wc = true → (A.2.2.2.1 h < A.2.2.2.1 k → A.2.2.2.2.2.2.1 (π x) ≤ A.2.2.2.2.2.2.1 (π y)) ∧ (A.2.2.2.1 k < A.2.2.2.1 h → A.2.2.2.2.2.2.1 (π y) ≤ A.2.2.2.2.2.2.1 (π x))) ↔ _
  have e1 : x ≠ y ↔ π x ≠ π y := ⟨fun z e => z (hπ.inj hx hy e), fun z e => z (by rw [e])⟩
  rw [e1]
  refine and_congr_right (fun _ => and_congr_right (fun _ => ?_))
  rcases hw with g | ⟨g1, g2⟩
  · rw [g]
  · have := g2 h k hh hk
    exact ⟨fun _ _ => ⟨fun z => by omega, fun z => by omega⟩, fun _ z => by rw [g1] at z; exact absurd z (by decide)⟩
theorem fd_Vs_N {A : fd_A} {π : Nat → Nat} {rk wc wd : Bool} (hπ : fd_pm A.2.1 π) (hw : fd_wk A rk wc) {c a : Nat → Nat} (hc : ∀ h, h < A.1 → c h < A.2.1) (ha : ∀ h, h < A.1 → a h = π (c h)) : fd_Vs (fd_N A π wd) wc c ↔ fd_Vs A rk a := by
  constructor
  · intro H h hh
    rw [ha h hh]
    refine ⟨hπ.1 _ (hc h hh), fun k hk hne => ?_⟩
    rw [ha k hk]
    exact (fd_cb_N hπ hw hh hk (hc h hh) (hc k hk)).mp ((H h hh).2 k hk hne)
  · intro H h hh
    refine ⟨hc h hh, fun k hk hne => ?_⟩
    have := (H h hh).2 k hk hne
    rw [ha h hh, ha k hk] at this
    exact (fd_cb_N hπ hw hh hk (hc h hh) (hc k hk)).mpr this
theorem fd_lift {A : fd_A} {π : Nat → Nat} (hπ : fd_pm A.2.1 π) {a : Nat → Nat} (ha : ∀ h, h < A.1 → a h < A.2.1) : ∃ c : Nat → Nat, ∀ h, h < A.1 → c h < A.2.1 ∧ a h = π (c h) := by
  refine ⟨fun h => if hh : h < A.1 then Classical.choose (hπ.on (ha h hh)) else 0, fun h hh => ?_⟩
  have := Classical.choose_spec (hπ.on (ha h hh))
  dsimp only
  rw [dif_pos hh]
  exact ⟨this.1, this.2.symm⟩
theorem fd_S_N {A : fd_A} {π : Nat → Nat} {c a : Nat → Nat} (ha : ∀ h, h < A.1 → a h = π (c h)) : fd_S (fd_N A π true) c = fd_S A a := fd_su_cg A.1 (fun i hi => by
  show A.2.2.1 i * A.2.2.2.2.2.2.2 (π (c i)) = A.2.2.1 i * A.2.2.2.2.2.2.2 (a i)
  rw [ha i hi])
theorem fd_S_0 {A : fd_A} {π : Nat → Nat} {c : Nat → Nat} : fd_S (fd_N A π false) c = 0 := by
  have h : ∀ n, fd_su (fd_f (fd_N A π false) c) n = 0 := fun n => by
    induction n with
    | zero => rfl
    | succ n ih =>
      show fd_su (fd_f (fd_N A π false) c) n + 0 * _ = 0
      rw [ih, Nat.zero_mul]
  exact h A.1
theorem fd_su_1 : ∀ (n : Nat), fd_su (fun _ => 1) n = n
  | 0 => rfl
  | n + 1 => by show fd_su (fun _ => 1) n + 1 = n + 1; rw [fd_su_1 n]
/-- a search from the start -/
theorem fw_23 {d : Nat} {al : Nat × Nat} {kl lim en : Nat} {A : fd_A} {wc : Bool} {o : Nat → Nat} {M : Nat → Nat → Int32} (hz : fd_T A wc o M) (hl : M 33 14 = nI lim) (hl' : lim ≤ 1000001) (hen : M 33 15 = nI en) (hen' : en ≤ 1000001) (hO : ∀ k, k < A.1 → fd_bs (M 40 k) (fun t => t < A.2.1)) : ∃ M' lim', ai_run (d + A.1 + 3) 23 0 [.ref 33, .int 0, .int (nI (2 ^ A.1 - 1)), .int 0, ai_un, ai_un, ai_un, ai_un] [] (hC al kl M) = some (.inl none, hC al kl M') ∧ fd_K M M' ∧ M' 33 14 = nI lim' ∧ (∀ j, j < 8 → M' 40 j = M 40 j) ∧ ((lim' = lim ∧ M' 44 = M 44) ∨ (lim' < lim ∧ ∃ a, fd_Vs A wc a ∧ fd_S A a = lim' ∧ ∀ h, h < A.1 → M' 44 h = nI (a h))) ∧ ∀ a, fd_Vs A wc a → lim' ≤ en ∨ lim' ≤ fd_S A a := by
  have hT : ∀ k, (2 ^ A.1 - 1).testBit k = decide (k < A.1) := fun k => Nat.testBit_two_pow_sub_one _ _
  have hno : ∀ k, k < A.1 → ¬ (2 ^ A.1 - 1).testBit k = false := fun k hk z => by rw [hT, decide_eq_true hk] at z; exact absurd z (by decide)
  have hpt : fd_pt A (2 ^ A.1 - 1) (fun _ => 0) = 0 := by
    have : fd_pt A (2 ^ A.1 - 1) (fun _ => 0) = fd_su (fun _ => 0) A.1 := fd_su_cg A.1 (fun i hi => by rw [hT, decide_eq_true hi, if_pos rfl])
    rw [this]
    have h : ∀ n, fd_su (fun _ => 0) n = 0 := fun n => by
      induction n with
      | zero => rfl
      | succ n ih => exact ih
    exact h _
  obtain ⟨M', lim', p1, p2, p3, p4, p5, p6, p7⟩ := fd_search (al := al) (kl := kl) (A := A) (wc := wc) (o := o) hen' A.1 d (2 ^ A.1 - 1) 0 (fun _ => 0) M lim hz hl hl' hen (fun k hk => by rw [hT] at hk; exact of_decide_eq_true hk) (by
    have : fd_ct A.1 (2 ^ A.1 - 1) = fd_su (fun _ => 1) A.1 := fd_su_cg A.1 (fun i hi => by rw [hT, decide_eq_true hi, if_pos rfl])
    rw [this, fd_su_1]) (by omega) (fun h hh hb => absurd hb (hno h hh)) (fun h hh hb => absurd hb (hno h hh)) (fun k hk _ => by
    rw [show 8 * 0 + k = k by omega]
    exact (hO k hk).cg (fun t _ => ⟨fun z => ⟨z, fun h hh hb => absurd hb (hno h hh)⟩, fun z => z.1⟩))
  rw [hpt] at p1
  refine ⟨M', lim', p1, p2, p3, fun j hj => p4 j (by omega), ?_, fun a ha => p7 a ⟨ha, fun h hh hb => absurd hb (hno h hh)⟩ trivial⟩
  rcases p6 with g | ⟨g1, a, g2, g3, g4⟩
  · exact Or.inl g
  · exact Or.inr ⟨g1, a, g2.1, g3, g4⟩
theorem fw_16 {d : Nat} {al : Nat × Nat} {kl p : Nat} {A : fd_A} {rk : Bool} {M : Nat → Nat → Int32} (hz : fd_Zc A p M) (hy : fd_By A) (h9 : 0 ≤ nI p ∧ nI p < M 9 0) : ∃ (M' : Nat → Nat → Int32) (b : Bool), ai_run (d + A.1 + 3 + 1) 16 0 [.ref 33, .int (nI p), .int (fn_bi rk)] [] (hC al kl M) = some (.inl (some (.int (fn_bi b))), hC al kl M') ∧ (∀ a, a < 33 ∨ 44 < a → M' a = M a) ∧ (b = true ↔ ∃ a, fd_V A rk a) := by
  have w18 : ∃ (M' : Nat → Nat → Int32) (π o : Nat → Nat) (wc : Bool), ai_run (d + A.1 + 3) 18 0 [.ref 33, .int (nI p), .int (fn_bi rk), .int (fn_bi false), ai_un, ai_un] [] (hC al kl M) = some (.inl none, hC al kl M') ∧ (∀ a, a < 33 ∨ 44 < a → M' a = M a) ∧ fd_pm A.2.1 π ∧ (∀ s, s < A.2.1 → M' 34 s = nI (π s)) ∧ fd_T (fd_N A π false) wc o M' ∧ (∀ k, k < A.1 → fd_bs (M' 40 k) (fun t => t < A.2.1)) ∧ (wc = rk ∨ (wc = false ∧ ∀ h k, h < A.1 → k < A.1 → A.2.2.2.1 h = A.2.2.2.1 k)) := fw_18 (d := d + A.1 + 1) hz hy h9
  obtain ⟨M1, π, o, wc, p1, p2, p3, p4, p5, p6, p7⟩ := w18
  obtain ⟨M2, lim', q1, q2, q3, q4, q5, q6⟩ := fw_23 (d := d) (al := al) (kl := kl) (lim := 1) (en := 0) (A := fd_N A π false) (M := ai_up (ai_up M1 33 14 1) 33 15 0) p5 rfl (by omega) rfl (by omega) p6
  have q1' : ai_run (d + A.1 + 3) 23 0 [.ref 33, .int 0, .int (nI (2 ^ A.1 - 1)), .int 0, ai_un, ai_un, ai_un, ai_un] [] (hC al kl (ai_up (ai_up M1 33 14 1) 33 15 0)) = some (.inl none, hC al kl M2) := q1
  have hrow : ∀ a, a < 33 ∨ 44 < a → M2 a = M a := fun a ha => by
    rw [q2.1 a (by omega) (by omega) (by omega) (by omega), fu_row (by omega), fu_row (by omega), p2 a ha]
  have hb : lim' = 0 ↔ ∃ a, fd_V A rk a := by
    constructor
    · intro z
      rcases q5 with ⟨g, -⟩ | ⟨-, c, g2, -, -⟩
      · omega
      · exact ⟨fun h => π (c h), (fd_Vs_iff hy).mp ((fd_Vs_N p3 p7 (fun h hh => (g2 h hh).1) (fun _ _ => rfl)).mp g2)⟩
    · rintro ⟨a, ha⟩
      have ha' := (fd_Vs_iff hy).mpr ha
      obtain ⟨c, hc⟩ := fd_lift p3 (fun h hh => (ha' h hh).1)
      have := q6 c ((fd_Vs_N p3 p7 (fun h hh => (hc h hh).1) (fun h hh => (hc h hh).2)).mpr ha')
      rw [fd_S_0] at this
      omega
  refine ⟨M2, decide (lim' = 0), ?_, hrow, by rw [decide_eq_true_iff]; exact hb⟩
  have p1' : ai_run (d + A.1 + 3) 18 0 [.ref 33, .int (nI p), .int (fn_bi rk), .int 0, ai_un, ai_un] [] (hC al kl M) = some (.inl none, hC al kl M1) := p1
  have e4 : (ai_up (ai_up M1 33 14 1) 33 15 0) 4 0 = nI A.1 := p5.1.2.2.1
  have hl2 : lim' ≤ 1 := by rcases q5 with ⟨g, -⟩ | ⟨g, -⟩ <;> omega
  rw [bq_16_0, p1', fb_n, bq_16_1, fw_17 (n := A.1) p5.1.1 e4, fb_s, bq_16_2, q1', fb_n, bq_16_3, q3]
  by_cases e : lim' = 0
  · rw [e, if_pos (show nI 0 = 0 from rfl), bq_16_5, if_pos (Or.inr rfl)]; rfl
  · rw [if_neg (fun z : nI lim' = 0 => e ((nI_eq (b := 0) (by omega) (by omega)).mp z)), bq_16_4, bq_16_5, if_pos (Or.inl rfl), decide_eq_false e]; rfl
theorem fd_Zc.lo {A : fd_A} {p : Nat} {M M' : Nat → Nat → Int32} (h : fd_Zc A p M) (e : ∀ a, a < 33 ∨ 44 < a → M' a = M a) : fd_Zc A p M' := by
  unfold fd_Zc
  rw [e 4 (by omega), e 15 (by omega), e 5 (by omega), e 6 (by omega), e 8 (by omega), e 16 (by omega), e 17 (by omega), e 18 (by omega)]
  exact h
theorem fw_14 {d : Nat} {al : Nat × Nat} {kl p : Nat} {A : fd_A} {M : Nat → Nat → Int32} (hz : fd_Zc A p M) (hy : fd_By A) (h9 : 0 ≤ nI p ∧ nI p < M 9 0) : ∃ (M' : Nat → Nat → Int32) (r : Int32), ai_run (d + A.1 + 3 + 2) 14 0 [.ref 33, .int (nI p)] [] (hC al kl M) = some (.inl (some (.int r)), hC al kl M') ∧ (∀ a, a < 33 ∨ 44 < a → M' a = M a) ∧ fd_wy A (fd_ho (M 7) 0 A.1 0 ≤ M 12 p) r := by
  obtain ⟨⟨z1, z2, z3, z4, z5⟩, zh, zr⟩ := id hz
  have i9 : ai_in (nI p) 9 = true := by rw [fi_in (by omega)]; exact decide_eq_true z3
  rw [bq_14_0, fw_33, fb_s, bq_14_1, if_neg (fun q => fn_b0.mp q h9), bq_14_2, i9, cond_true, nI_clamp (by omega), z4, z5]
  by_cases c1 : A.1 ≤ A.2.1
  · rw [if_pos (nI_le c1 (by omega)), bq_14_3, fw_11 z1 z4, fb_s, bq_14_4, i9, cond_true, nI_clamp (by omega)]
    by_cases c2 : fd_ho (M 7) 0 A.1 0 ≤ M 12 p
    · obtain ⟨M1, b1, p1, p2, p3⟩ := fw_16 (d := d) (al := al) (kl := kl) (rk := true) hz hy h9
      have p1' : ai_run (d + A.1 + 3 + 1) 16 0 [.ref 33, .int (nI p), .int 1] [] (hC al kl M) = some (.inl (some (.int (fn_bi b1))), hC al kl M1) := p1
      rw [if_pos c2, bq_14_5, p1', fb_s, bq_14_6]
      cases b1 with
      | true => exact ⟨M1, 0, by rw [if_neg (show ¬ fn_bi true = 0 by decide)], p2, Or.inr (Or.inr (Or.inl ⟨c1, c2, p3.mp rfl, rfl⟩))⟩
      | false =>
        have n1 : ¬ ∃ a, fd_V A true a := fun z => absurd (p3.mpr z) (by decide)
        obtain ⟨M2, b2, q1, q2, q3⟩ := fw_16 (d := d) (al := al) (kl := kl) (rk := false) (hz.lo p2) hy (by rw [p2 9 (by omega)]; exact h9)
        have q1' : ai_run (d + A.1 + 3 + 1) 16 0 [.ref 33, .int (nI p), .int 0] [] (hC al kl M1) = some (.inl (some (.int (fn_bi b2))), hC al kl M2) := q1
        rw [if_pos (show fn_bi false = 0 from rfl), bq_14_7, q1', fb_s, bq_14_8]
        cases b2 with
        | true => exact ⟨M2, 4, by rw [if_neg (show ¬ fn_bi true = 0 by decide), bq_14_10], fun a ha => by rw [q2 a ha, p2 a ha], Or.inr (Or.inr (Or.inr (Or.inl ⟨c1, c2, n1, q3.mp rfl, rfl⟩)))⟩
        | false => exact ⟨M2, 3, by rw [if_pos (show fn_bi false = 0 from rfl), bq_14_9, bq_14_10], fun a ha => by rw [q2 a ha, p2 a ha], Or.inr (Or.inr (Or.inr (Or.inr ⟨c1, c2, n1, fun z => absurd (q3.mpr z) (by decide), rfl⟩)))⟩
    · exact ⟨M, 2, by rw [if_neg c2], fun _ _ => rfl, Or.inr (Or.inl ⟨c1, c2, rfl⟩)⟩
  · exact ⟨M, 1, by rw [if_neg (nI_ge (by omega) (by omega))], fun _ _ => rfl, Or.inl ⟨by omega, rfl⟩⟩
theorem ft_122 {n np t : Nat} {M MM : Nat → Nat → Int32} (h : fn_I n np t M MM) (x : Int32) : fn_S 122 190 [.int x] M MM := by
  intro al am kl N
  rw [show ai_ent (ai_mx 122) [.ref 0, .int x] = [.ref 0, .int x] from rfl, show ai_ent (ai_mx 190) [.ref 0, .int x] = [.ref 0, .int x] from rfl]
  obtain ⟨⟨l1, l2, l3⟩, l4, -⟩ := h.land
  rw [bq_122_0, fw_33, fb_s, bq_122_1, bq_190_0, fw_151, fb_s, bq_190_1, l2, show (ai_up MM 0 0 0) 0 5 = nI np from l3]
  by_cases hx : 0 ≤ x ∧ x < nI np
  · obtain ⟨p, p1, p2⟩ := fi_of (n := np) (by omega) hx
    subst p2
    obtain ⟨A, a1, a2, a3, a4⟩ := fd_of h p1
    have hn := a2.1.1
    obtain ⟨d1, hd1⟩ : ∃ d1, 199 = d1 + A.1 + 3 + 2 := ⟨194 - A.1, by omega⟩
    obtain ⟨d2, hd2⟩ : ∃ d2, 199 = d2 + A.1 + 1 := ⟨198 - A.1, by omega⟩
    obtain ⟨M1, r, q1, q2, q3⟩ := fw_14 (d := d1) (al := al) (kl := kl) a2 a4 (by rw [l2]; exact hx)
    obtain ⟨g34, g35, b, r', w1, w2⟩ := fw_187 (d := d2) (al := am) (N := N) (MM := ai_up MM 0 0 0) a3
    rw [← hd1] at q1
    rw [← hd2] at w1
    have e : r = r' := by
      have hho : fd_ho (M 7) 0 A.1 0 = fd_ho (MM 3) 0 A.1 0 := fd_ho_cg A.1 0 0 (fun j hj => (h.court.2.1 j (by omega)).2.2.1)
      rw [hho, (l4 p (by omega)).2.2.1] at q3
      exact q3.un w2
    subst e
    rw [if_neg (fun q => fn_b0.mp q hx), if_neg (fun q => fn_b0.mp q hx), q1, fb_s, bq_122_2, bq_137_0, fb_s, bq_122_3, bq_122_5, w1, fb_s, bq_190_2, bq_146_0, fb_s, bq_190_3, bq_190_5]
    have hI := (h.lo q2).no 0
    exact ⟨r, n, np, t, _, _, rfl, rfl, ⟨by rw [fu_row (by decide)]; exact q2 49 (by omega), by rw [fu_row (by decide), q2 45 (by omega)]⟩, hI⟩
  · rw [if_pos (fn_b0.mpr hx), if_pos (fn_b0.mpr hx), bq_122_4, bq_136_0, fb_s, bq_122_5, bq_190_4, bq_144_0, fb_s, bq_190_5]
    exact ⟨_, n, np, t, _, _, rfl, rfl, ⟨rfl, rfl⟩, h.no 1⟩
