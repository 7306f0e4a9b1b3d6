/-! lodgings: the reference's search, for any and for the least -/
def fd_W (MM : Nat → Nat → Int32) (g34 g35 : Nat → Int32) (b : Int32) : Nat → Nat → Int32 := ai_up (fn_rw (fn_rw MM 34 g34) 35 g35) 0 52 b
theorem fd_W34 {MM : Nat → Nat → Int32} {g34 g35 : Nat → Int32} {b v : Int32} {i : Nat} : ai_up (fd_W MM g34 g35 b) 34 i v = fd_W MM (upd g34 i v) g35 b := by
  funext a
  by_cases h0 : a = 0
  · subst h0; rfl
  · by_cases h1 : a = 34
    · subst h1; rfl
    · by_cases h2 : a = 35
      · subst h2; rfl
      · simp [fd_W, ai_up, fn_rw, h0, h1, h2]
theorem fd_W35 {MM : Nat → Nat → Int32} {g34 g35 : Nat → Int32} {b v : Int32} {i : Nat} : ai_up (fd_W MM g34 g35 b) 35 i v = fd_W MM g34 (upd g35 i v) b := by
  funext a
  by_cases h0 : a = 0
  · subst h0; rfl
  · by_cases h1 : a = 34
    · subst h1; rfl
    · by_cases h2 : a = 35
      · subst h2; rfl
      · simp [fd_W, ai_up, fn_rw, h0, h1, h2]
theorem fd_W52 {MM : Nat → Nat → Int32} {g34 g35 : Nat → Int32} {b v : Int32} : ai_up (fd_W MM g34 g35 b) 0 52 v = fd_W MM g34 g35 v := by
  funext a j
  by_cases h0 : a = 0
  · subst h0
    show upd (upd (MM 0) 52 b) 52 v j = upd (MM 0) 52 v j
    by_cases hj : j = 52
    · subst hj; rw [pk_us, pk_us]
    · rw [pk_un hj, pk_un hj, pk_un hj]
  · show ai_up (fd_W MM g34 g35 b) 0 52 v a j = ai_up (fn_rw (fn_rw MM 34 g34) 35 g35) 0 52 v a j
    rw [fu_row h0, fu_row h0]
    show ai_up (fn_rw (fn_rw MM 34 g34) 35 g35) 0 52 b a j = _
    rw [fu_row h0]
/-- the rooms so far -/
def fd_c (A : fd_A) (rk : Bool) (h : Nat) (c : Nat → Nat) (g34 : Nat → Int32) : Prop := ∀ k, k < h → (g34 k = nI (c k) ∧ c k < A.2.1) ∧ ∀ j, j < k → fd_cb A rk k (c k) j (c j) = true
def fd_u (c : Nat → Nat) (h r : Nat) : Nat → Nat := fun k => if k = h then r else c k
theorem fd_u_s {c : Nat → Nat} {h r : Nat} : fd_u c h r h = r := if_pos rfl
theorem fd_u_n {c : Nat → Nat} {h r k : Nat} (e : k ≠ h) : fd_u c h r k = c k := if_neg e
theorem fd_c.more {A : fd_A} {rk : Bool} {h r : Nat} {c : Nat → Nat} {g34 : Nat → Int32} (hc : fd_c A rk h c g34) (hr : r < A.2.1) (hm : fd_al (fun j => fd_cb A rk h r j (c j)) h = true) : fd_c A rk (h + 1) (fd_u c h r) (upd g34 h (nI r)) := by
  intro k hk
  by_cases e : k = h
  · subst e
    refine ⟨⟨by rw [pk_us, fd_u_s], by rw [fd_u_s]; exact hr⟩, fun j hj => ?_⟩
    rw [fd_u_s, fd_u_n (by omega)]
    exact (fd_al_iff k).mp hm j hj
  · obtain ⟨⟨a1, a2⟩, a3⟩ := hc k (by omega)
    refine ⟨⟨by rw [pk_un e, fd_u_n e]; exact a1, by rw [fd_u_n e]; exact a2⟩, fun j hj => ?_⟩
    rw [fd_u_n e, fd_u_n (by omega)]
    exact a3 j hj
theorem fd_X.more {A : fd_A} {rk : Bool} {h r : Nat} {c a : Nat → Nat} : fd_X A rk (h + 1) (fd_u c h r) a ↔ fd_X A rk h c a ∧ a h = r := by
  constructor
  · rintro ⟨h1, h2⟩
    refine ⟨⟨h1, fun k hk => ?_⟩, ?_⟩
    · rw [h2 k (by omega), fd_u_n (by omega)]
    · rw [h2 h (by omega), fd_u_s]
  · rintro ⟨⟨h1, h2⟩, h3⟩
    refine ⟨h1, fun k hk => ?_⟩
    by_cases e : k = h
    · rw [e, fd_u_s, h3]
    · rw [fd_u_n e, h2 k (by omega)]
theorem fd_X.may {A : fd_A} {rk : Bool} {h : Nat} {c a : Nat → Nat} (ha : fd_X A rk h c a) (hh : h < A.1) : fd_al (fun j => fd_cb A rk h (a h) j (c j)) h = true := by
  rw [fd_al_iff]
  intro j hj
  rw [← ha.2 j hj]
  exact (ha.1 h hh).2 j hj
theorem fl_185c {d : Nat} {al : Nat × Nat} {N : Nat → Nat → Int64} {p : Nat} {A : fd_A} {MM : Nat → Nat → Int32} (hz : fd_Zm A p MM) {g34 : Nat → Int32} {b : Int32} : ∀ (m k : Nat) (g35 : Nat → Int32) (v1 v2 v3 v4 v5 v7 v8 : Value), k + m = A.1 → (∀ j, j < k → g35 j = g34 j) → ∃ g35' : Nat → Int32, ai_run d 185 1 [.ref 0, v1, v2, v3, v4, v5, .int (nI k), v7, v8] [] (hM al (fd_W MM g34 g35 b) N) = some (.inl (some (.int 1)), hM al (fd_W MM g34 g35' b) N) ∧ ∀ j, j < A.1 → g35' j = g34 j
  | 0, k, g35, v1, v2, v3, v4, v5, v7, v8, h, hj => by
    have e : k = A.1 := by omega
    refine ⟨g35, ?_, fun j hj' => hj j (by omega)⟩
    rw [bq_185_1, show (fd_W MM g34 g35 b) 0 4 = nI A.1 from hz.1.2.2.2.1, e, if_pos Int32.le_rfl, bq_185_2]
  | m + 1, k, g35, v1, v2, v3, v4, v5, v7, v8, h, hj => by
    have hn := hz.1.1
    obtain ⟨g35', p1, p2⟩ := fl_185c (d := d) (al := al) (N := N) (g34 := g34) (b := b) hz m (k + 1) (upd g35 k (g34 k)) ai_un ai_un ai_un ai_un ai_un ai_un ai_un (by omega) (fun j hj' => by
      by_cases e : j = k
      · rw [e, pk_us]
      · rw [pk_un e]; exact hj j (by omega))
    refine ⟨g35', ?_, p2⟩
    rw [bq_185_1, show (fd_W MM g34 g35 b) 0 4 = nI A.1 from hz.1.2.2.2.1, if_neg (nI_ge (by omega) (by omega)), fi_in (by omega), decide_eq_true (by omega), cond_true, cond_true, nI_clamp (by omega), fd_W35, nI_1]
    exact p1
def fd_Ha (al : Nat × Nat) (N : Nat → Nat → Int64) (p : Nat) (rk : Bool) (A : fd_A) (MM : Nat → Nat → Int32) (D h : Nat) : Prop := ∀ (c : Nat → Nat) (g34 g35 : Nat → Int32) (b x3 : Int32) (v6 v7 v8 : Value), fd_c A rk h c g34 → ∃ (g34' g35' : Nat → Int32) (b' : Int32) (fd : Bool), ai_run D 185 0 [.ref 0, .int (nI p), .int (nI h), .int x3, .int (fn_bi rk), .int 1, v6, v7, v8] [] (hM al (fd_W MM g34 g35 b) N) = some (.inl (some (.int (fn_bi fd))), hM al (fd_W MM g34' g35' b') N) ∧ (∀ k, k < h → g34' k = g34 k) ∧ (fd = true ↔ ∃ a, fd_X A rk h c a)
theorem fd_fb (fd : Bool) : fn_bi fd = 0 ∨ fn_bi fd = 1 := by cases fd; exact Or.inl rfl; exact Or.inr rfl
theorem fl_185a {D : Nat} {al : Nat × Nat} {N : Nat → Nat → Int64} {p h : Nat} {rk : Bool} {A : fd_A} {MM : Nat → Nat → Int32} (hz : fd_Zm A p MM) (hh : h < A.1) (hH : fd_Ha al N p rk A MM D (h + 1)) {c : Nat → Nat} {x3 : Int32} : ∀ (m r : Nat) (g34 g35 : Nat → Int32) (b : Int32) (fd : Bool) (v8 : Value), r + m = A.2.1 → fd_c A rk h c g34 → (fd = true ↔ ∃ a, fd_X A rk h c a ∧ a h < r) → ∃ (g34' g35' : Nat → Int32) (b' : Int32) (fd' : Bool), ai_run (D + 1) 185 4 [.ref 0, .int (nI p), .int (nI h), .int x3, .int (fn_bi rk), .int 1, .int (fn_bi fd), .int (nI r), v8] [] (hM al (fd_W MM g34 g35 b) N) = some (.inl (some (.int (fn_bi fd'))), hM al (fd_W MM g34' g35' b') N) ∧ (∀ k, k < h → g34' k = g34 k) ∧ (fd' = true ↔ ∃ a, fd_X A rk h c a)
  | 0, r, g34, g35, b, fd, v8, hr, hc, hf => by
    obtain ⟨⟨z1, z2, z3, z4, z5⟩, zh, zr⟩ := id hz
    refine ⟨g34, g35, b, fd, ?_, fun _ _ => rfl, hf.trans ⟨fun ⟨a, a1, _⟩ => ⟨a, a1⟩, fun ⟨a, a1⟩ => ⟨a, a1, by have := (a1.1 h hh).1; omega⟩⟩⟩
    rw [bq_185_4, fi_in (by omega), decide_eq_true z3, cond_true, nI_clamp (by omega), show (fd_W MM g34 g35 b) 10 p = nI A.2.1 from z5, if_pos (nI_le (by omega) (by omega)), bq_185_14, if_pos (fd_fb fd)]
  | m + 1, r, g34, g35, b, fd, v8, hr, hc, hf => by
    obtain ⟨⟨z1, z2, z3, z4, z5⟩, zh, zr⟩ := id hz
    have i9 : ai_in (nI p) 9 = true := by rw [fi_in (by omega)]; exact decide_eq_true z3
    have i8 : ai_in (nI h) 8 = true := by rw [fi_in (by omega)]; exact decide_eq_true (by omega)
    have i90 : ai_in (nI (10 * p + r)) 90 = true := by rw [fi_in (by omega)]; exact decide_eq_true (by omega)
    cases fd with
    | true =>
      refine ⟨g34, g35, b, true, ?_, fun _ _ => rfl, ⟨fun _ => by obtain ⟨a, a1, -⟩ := hf.mp rfl; exact ⟨a, a1⟩, fun _ => rfl⟩⟩
      rw [bq_185_4, i9, cond_true, nI_clamp (by omega), show (fd_W MM g34 g35 b) 10 p = nI A.2.1 from z5, if_neg (nI_ge (by omega) (by omega)), if_neg (by decide), if_neg (show ¬ fn_bi true = 0 by decide), bq_185_14, if_pos (fd_fb true)]
    | false =>
      have hno : ∀ a, fd_X A rk h c a → ¬ a h < r := fun a a1 a2 => absurd (hf.mpr ⟨a, a1, a2⟩) (by decide)
      have w := fw_184 (d := D) (al := al) (N := N) (M := fd_W MM g34 g35 b) (rk := rk) (x := r) (c := c) (v5 := ai_un) (v6 := ai_un) (v7 := ai_un) (v8 := ai_un) hz hh (by omega) (fun k hk => (hc k hk).1)
      rw [bq_185_4, i9, cond_true, nI_clamp (by omega), show (fd_W MM g34 g35 b) 10 p = nI A.2.1 from z5, if_neg (nI_ge (by omega) (by omega)), if_neg (by decide), if_pos (show fn_bi false = 0 from rfl), bq_185_5, i8, cond_true, fi_r.2, i90, cond_true, if_neg (by decide), bq_185_6, w, fb_s, bq_185_7]
      cases hm : fd_al (fun j => fd_cb A rk h r j (c j)) h with
      | false =>
        obtain ⟨g34', g35', b', fd', p1, p2, p3⟩ := fl_185a hz hh hH (x3 := x3) m (r + 1) g34 g35 b false ai_un (by omega) hc ⟨fun z => absurd z (by decide), fun ⟨a, a1, a2⟩ => by
          exfalso
          have h1 := hno a a1
          have e : a h = r := by omega
          have := a1.may hh
          rw [e, hm] at this
          exact absurd this (by decide)⟩
        exact ⟨g34', g35', b', fd', by rw [if_pos (show fn_bi false = 0 from rfl), bq_185_13, nI_1, p1], p2, p3⟩
      | true =>
        obtain ⟨ga, gb, b2, fd2, q1, q2, q3⟩ := hH (fd_u c h r) (upd g34 h (nI r)) g35 b (x3 + ((fd_W MM g34 g35 b) 2 (nI h).toNatClampNeg * (fd_W MM g34 g35 b) 13 (nI (10 * p + r)).toNatClampNeg)) ai_un ai_un ai_un (hc.more (by omega) hm)
        have hc' : fd_c A rk h c ga := fun k hk => by
          obtain ⟨⟨a1, a2⟩, a3⟩ := hc k hk
          refine ⟨⟨?_, a2⟩, a3⟩
          rw [q2 k (by omega), pk_un (by omega)]; exact a1
        obtain ⟨g34', g35', b', fd', p1, p2, p3⟩ := fl_185a hz hh hH (x3 := x3) m (r + 1) ga gb b2 fd2 ai_un (by omega) hc' (q3.trans ⟨fun ⟨a, a1⟩ => by
          obtain ⟨a2, a3⟩ := fd_X.more.mp a1
          exact ⟨a, a2, by omega⟩, fun ⟨a, a1, a2⟩ => ⟨a, fd_X.more.mpr ⟨a1, by have := hno a a1; omega⟩⟩⟩)
        refine ⟨g34', g35', b', fd', ?_, fun k hk => by rw [p2 k hk, q2 k (by omega), pk_un (by omega)], p3⟩
        rw [if_neg (show ¬ fn_bi true = 0 by decide), bq_185_8, i8, cond_true, nI_1, nI_clamp (n := h) (by omega), fd_W34]
        rw [nI_clamp (n := h) (by omega)] at q1
        rw [q1, fb_s, bq_185_9]
        cases fd2 with
        | true => rw [if_neg (show ¬ fn_bi true = 0 by decide), bq_185_10, bq_185_12, bq_185_13, nI_1]; exact p1
        | false => rw [if_pos (show fn_bi false = 0 from rfl), if_pos (show fn_bi false = 0 from rfl), bq_185_11, bq_185_12, bq_185_13, nI_1]; exact p1
theorem fd_any {al : Nat × Nat} {N : Nat → Nat → Int64} {p : Nat} {rk : Bool} {A : fd_A} {MM : Nat → Nat → Int32} (hz : fd_Zm A p MM) : ∀ (m h d : Nat), h + m = A.1 → fd_Ha al N p rk A MM (d + m) h
  | 0, h, d, hm => fun c g34 g35 b x3 v6 v7 v8 hc => by
    have e : h = A.1 := by omega
    obtain ⟨g35', p1, p2⟩ := fl_185c (d := d) (al := al) (N := N) (g34 := g34) (b := x3) hz A.1 0 g35 (.int (nI p)) (.int (nI h)) (.int x3) (.int (fn_bi rk)) (.int 1) ai_un ai_un (by omega) (fun j hj => absurd hj (Nat.not_lt_zero _))
    refine ⟨g34, g35', x3, true, ?_, fun _ _ => rfl, ⟨fun _ => ⟨c, fun k hk => ⟨((hc k (by omega)).1).2, (hc k (by omega)).2⟩, fun _ _ => rfl⟩, fun _ => rfl⟩⟩
    rw [bq_185_0, show (fd_W MM g34 g35 b) 0 4 = nI A.1 from hz.1.2.2.2.1, if_pos (by rw [e]), fd_W52]
    exact p1
  | m + 1, h, d, hm => fun c g34 g35 b x3 v6 v7 v8 hc => by
    have hn := hz.1.1
    have hne : ¬ nI h = nI A.1 := fun z => by have := (nI_eq (by omega) (by omega)).mp z; omega
    obtain ⟨g34', g35', b', fd', p1, p2, p3⟩ := fl_185a (D := d + m) (x3 := x3) hz (show h < A.1 by omega) (fd_any (al := al) (N := N) (rk := rk) hz m (h + 1) d (by omega)) A.2.1 0 g34 g35 b false ai_un (by omega) hc ⟨fun z => absurd z (by decide), fun ⟨a, _, a2⟩ => absurd a2 (Nat.not_lt_zero _)⟩
    refine ⟨g34', g35', b', fd', ?_, p2, p3⟩
    rw [bq_185_0, show (fd_W MM g34 g35 b) 0 4 = nI A.1 from hz.1.2.2.2.1, if_neg hne, bq_185_3]
    exact p1
/-! the least -/
/-- what a search has found, among those that P picks: b0 and g0 before it -/
def fd_P (A : fd_A) (P : (Nat → Nat) → Prop) (b0 b : Nat) (g0 g : Nat → Int32) : Prop := (b = b0 ∧ g = g0 ∧ ∀ a, P a → b0 ≤ fd_S A a) ∨ (b < b0 ∧ ∃ a, P a ∧ fd_S A a = b ∧ (∀ j, j < A.1 → g j = nI (a j)) ∧ ∀ a', P a' → b ≤ fd_S A a' ∧ (fd_S A a' = b → fd_lx A.1 a a'))
def fd_Hm (al : Nat × Nat) (N : Nat → Nat → Int64) (p : Nat) (rk : Bool) (A : fd_A) (MM : Nat → Nat → Int32) (D h : Nat) : Prop := ∀ (c : Nat → Nat) (g34 g35 : Nat → Int32) (b : Nat) (v6 v7 v8 : Value), b ≤ 1000000000 → fd_su (fd_f A c) h < b → fd_c A rk h c g34 → ∃ (g34' g35' : Nat → Int32) (b' : Nat) (fd : Bool), ai_run D 185 0 [.ref 0, .int (nI p), .int (nI h), .int (nI (fd_su (fd_f A c) h)), .int (fn_bi rk), .int 0, v6, v7, v8] [] (hM al (fd_W MM g34 g35 (nI b)) N) = some (.inl (some (.int (fn_bi fd))), hM al (fd_W MM g34' g35' (nI b')) N) ∧ (∀ k, k < h → g34' k = g34 k) ∧ fd_P A (fd_X A rk h c) b b' g35 g35'
/-- what the rest takes at least -/
def fd_sp (A : fd_A) (s37 : Nat → Int32) : Prop := ∀ h, h < A.1 → ∃ q, q ≤ 100000 ∧ s37 (h + 1) = nI q ∧ ∀ a, (∀ k, k < A.1 → a k < A.2.1) → fd_su (fd_f A a) (h + 1) + q ≤ fd_S A a
theorem fl_185m {D : Nat} {al : Nat × Nat} {N : Nat → Nat → Int64} {p h : Nat} {rk : Bool} {A : fd_A} {MM : Nat → Nat → Int32} (hz : fd_Zm A p MM) (hs : fd_sp A (MM 37)) (hh : h < A.1) (hH : fd_Hm al N p rk A MM D (h + 1)) {c : Nat → Nat} {b0 : Nat} {g0 : Nat → Int32} (hb0 : b0 ≤ 1000000000) : ∀ (m r : Nat) (g34 g35 : Nat → Int32) (b : Nat) (fd : Bool) (v8 : Value), r + m = A.2.1 → fd_c A rk h c g34 → fd_P A (fun a => fd_X A rk h c a ∧ a h < r) b0 b g0 g35 → ∃ (g34' g35' : Nat → Int32) (b' : Nat) (fd' : Bool), ai_run (D + 1) 185 4 [.ref 0, .int (nI p), .int (nI h), .int (nI (fd_su (fd_f A c) h)), .int (fn_bi rk), .int 0, .int (fn_bi fd), .int (nI r), v8] [] (hM al (fd_W MM g34 g35 (nI b)) N) = some (.inl (some (.int (fn_bi fd'))), hM al (fd_W MM g34' g35' (nI b')) N) ∧ (∀ k, k < h → g34' k = g34 k) ∧ fd_P A (fd_X A rk h c) b0 b' g0 g35'
  | 0, r, g34, g35, b, fd, v8, hr, hc, hP => by
    obtain ⟨⟨z1, z2, z3, z4, z5⟩, zh, zr⟩ := id hz
    have hall : ∀ a, fd_X A rk h c a → fd_X A rk h c a ∧ a h < r := fun a ha => ⟨ha, by have := (ha.1 h hh).1; omega⟩
    refine ⟨g34, g35, b, fd, ?_, fun _ _ => rfl, ?_⟩
    · rw [bq_185_4, fi_in (by omega), decide_eq_true z3, cond_true, nI_clamp (by omega), show (fd_W MM g34 g35 (nI b)) 10 p = nI A.2.1 from z5, if_pos (nI_le (by omega) (by omega)), bq_185_14, if_pos (fd_fb fd)]
    · rcases hP with ⟨e1, e2, e3⟩ | ⟨e1, a, e2, e3, e4, e5⟩
      · exact Or.inl ⟨e1, e2, fun a ha => e3 a (hall a ha)⟩
      · exact Or.inr ⟨e1, a, e2.1, e3, e4, fun a' ha' => e5 a' (hall a' ha')⟩
  | m + 1, r, g34, g35, b, fd, v8, hr, hc, hP => by
    obtain ⟨⟨z1, z2, z3, z4, z5⟩, zh, zr⟩ := id hz
    obtain ⟨-, ⟨w2, w2'⟩, -⟩ := zh h hh
    obtain ⟨-, -, w3, w3'⟩ := zr r (by omega)
    obtain ⟨q, q1, q2, q3⟩ := hs h hh
    have i9 : ai_in (nI p) 9 = true := by rw [fi_in (by omega)]; exact decide_eq_true z3
    have i8 : ai_in (nI h) 8 = true := by rw [fi_in (by omega)]; exact decide_eq_true (by omega)
    have i90 : ai_in (nI (10 * p + r)) 90 = true := by rw [fi_in (by omega)]; exact decide_eq_true (by omega)
    have i99 : ai_in (nI (h + 1)) 9 = true := by rw [fi_in (by omega)]; exact decide_eq_true (by omega)
    have hble : b ≤ b0 := by rcases hP with ⟨e1, -, -⟩ | ⟨e1, -⟩ <;> omega
    have hsum : fd_su (fd_f A (fd_u c h r)) (h + 1) = fd_su (fd_f A c) h + A.2.2.1 h * A.2.2.2.2.2.2.2 r := by
      show fd_su (fd_f A (fd_u c h r)) h + fd_f A (fd_u c h r) h = _
      rw [fd_su_cg (g := fd_f A c) h (fun i hi => by unfold fd_f; rw [fd_u_n (by omega)])]
      unfold fd_f
      rw [fd_u_s]
    have hsb : fd_su (fd_f A (fd_u c h r)) (h + 1) ≤ (h + 1) * 9801 := fd_su_b (h + 1) (fun i hi => by
      unfold fd_f
      have h1 := (zh i (by omega)).2.1.2
      have h2 : A.2.2.2.2.2.2.2 (fd_u c h r i) ≤ 99 := by
        by_cases e : i = h
        · rw [e, fd_u_s]; exact w3'
        · rw [fd_u_n e]; exact (zr (c i) ((hc i (by omega)).1.2)).2.2.2
      exact Nat.mul_le_mul h1 h2)
    -- all with room r take at least this
    have hlow : ∀ a, fd_X A rk h c a → a h = r → fd_su (fd_f A (fd_u c h r)) (h + 1) + q ≤ fd_S A a := fun a ha e => by
      have h1 := q3 a (fun k hk => (ha.1 k hk).1)
      rw [fd_su_cg (g := fd_f A a) (h + 1) (fun i hi => by
        unfold fd_f
        by_cases ei : i = h
        · rw [ei, fd_u_s, e]
        · rw [fd_u_n ei, ha.2 i (by omega)])]
      exact h1
    -- none with room r is better
    have skip : (∀ a, fd_X A rk h c a → a h = r → b ≤ fd_S A a) → fd_P A (fun a => fd_X A rk h c a ∧ a h < r + 1) b0 b g0 g35 := fun hno => by
      rcases hP with ⟨e1, e2, e3⟩ | ⟨e1, a, e2, e3, e4, e5⟩
      · refine Or.inl ⟨e1, e2, fun a ha => ?_⟩
        by_cases er : a h = r
        · have := hno a ha.1 er; omega
        · exact e3 a ⟨ha.1, by have := ha.2; omega⟩
      · refine Or.inr ⟨e1, a, ⟨e2.1, by have := e2.2; omega⟩, e3, e4, fun a' ha' => ?_⟩
        by_cases er : a' h = r
        · refine ⟨hno a' ha'.1 er, fun _ j hj hp => ?_⟩
          have ea : ∀ i, i < h → a i = c i := e2.1.2
          have ea' : ∀ i, i < h → a' i = c i := ha'.1.2
          have lt := e2.2
          rcases Nat.lt_trichotomy j h with g | g | g
          · rw [ea j g, ea' j g]; exact Nat.le_refl _
          · subst g; omega
          · have := hp h g; omega
        · exact e5 a' ⟨ha'.1, by have := ha'.2; omega⟩
    have hnext : fd_su (fd_f A c) h + A.2.2.1 h * A.2.2.2.2.2.2.2 r = fd_su (fd_f A (fd_u c h r)) (h + 1) := hsum.symm
    rw [bq_185_4, i9, cond_true, nI_clamp (by omega), show (fd_W MM g34 g35 (nI b)) 10 p = nI A.2.1 from z5, if_neg (nI_ge (by omega) (by omega)), if_pos rfl, bq_185_5, i8, cond_true, fi_r.2, i90, cond_true, if_pos rfl, nI_1, i99, cond_true, nI_clamp (n := h) (by omega), nI_clamp (n := 10 * p + r) (by omega), nI_clamp (n := h + 1) (by omega), show (fd_W MM g34 g35 (nI b)) 0 52 = nI b from fu_at, show (fd_W MM g34 g35 (nI b)) 2 h = nI (A.2.2.1 h) from w2, show (fd_W MM g34 g35 (nI b)) 13 (10 * p + r) = nI (A.2.2.2.2.2.2.2 r) from w3, show (fd_W MM g34 g35 (nI b)) 37 (h + 1) = nI q from q2, pk_mul, nI_add, nI_add, hnext]
    by_cases hpr : b ≤ fd_su (fd_f A (fd_u c h r)) (h + 1) + q
    · obtain ⟨g34', g35', b', fd', p1, p2, p3⟩ := fl_185m hz hs hh hH hb0 m (r + 1) g34 g35 b fd ai_un (by omega) hc (skip (fun a ha e => Nat.le_trans hpr (hlow a ha e)))
      exact ⟨g34', g35', b', fd', by rw [if_pos (nI_le hpr (by omega)), bq_185_13, nI_1, p1], p2, p3⟩
    · have w := fw_184 (d := D) (al := al) (N := N) (M := fd_W MM g34 g35 (nI b)) (rk := rk) (x := r) (c := c) (v5 := ai_un) (v6 := ai_un) (v7 := ai_un) (v8 := ai_un) hz hh (by omega) (fun k hk => (hc k hk).1)
      rw [if_neg (nI_ge (by omega) (by omega)), bq_185_6, w, fb_s, bq_185_7]
      cases hm : fd_al (fun j => fd_cb A rk h r j (c j)) h with
      | false =>
        obtain ⟨g34', g35', b', fd', p1, p2, p3⟩ := fl_185m hz hs hh hH hb0 m (r + 1) g34 g35 b fd ai_un (by omega) hc (skip (fun a ha e => by
          exfalso
          have := ha.may hh
          rw [e, hm] at this
          exact absurd this (by decide)))
        exact ⟨g34', g35', b', fd', by rw [if_pos (show fn_bi false = 0 from rfl), bq_185_13, nI_1, p1], p2, p3⟩
      | true =>
        obtain ⟨ga, gb, b2, fd2, u1, u2, u3⟩ := hH (fd_u c h r) (upd g34 h (nI r)) g35 b ai_un ai_un ai_un (by omega) (by omega) (hc.more (by omega) hm)
        have hc' : fd_c A rk h c ga := fun k hk => by
          obtain ⟨⟨a1, a2⟩, a3⟩ := hc k hk
          refine ⟨⟨?_, a2⟩, a3⟩
          rw [u2 k (by omega), pk_un (by omega)]; exact a1
        have hP' : fd_P A (fun a => fd_X A rk h c a ∧ a h < r + 1) b0 b2 g0 gb := by
          rcases u3 with ⟨e1, e2, e3⟩ | ⟨e1, a, e2, e3, e4, e5⟩
          · rw [e1, e2]
            exact skip (fun a ha e => e3 a (fd_X.more.mpr ⟨ha, e⟩))
          · have ha := fd_X.more.mp e2
            refine Or.inr ⟨by omega, a, ⟨ha.1, by omega⟩, e3, e4, fun a' ha' => ?_⟩
            by_cases er : a' h = r
            · exact e5 a' (fd_X.more.mpr ⟨ha'.1, er⟩)
            · have hlt : a' h < r := by have := ha'.2; omega
              have hge : b ≤ fd_S A a' := by
                rcases hP with ⟨f1, f2, f3⟩ | ⟨f1, f, f2, f3, f4, f5⟩
                · rw [f1]; exact f3 a' ⟨ha'.1, hlt⟩
                · exact (f5 a' ⟨ha'.1, hlt⟩).1
              exact ⟨by omega, fun z => by omega⟩
        have run : ∀ x6 : Bool, ∃ fd3 : Bool, ai_back ai_run (D + 1) 185 0 [.ref 0, .int (nI p), .int (nI h), .int (nI (fd_su (fd_f A c) h)), .int (fn_bi rk), .int 0, .int (fn_bi x6), .int (nI r), .int (nI (fd_su (fd_f A (fd_u c h r)) (h + 1)))] [] (fun L st h => ai_run (D + 1) 185 9 L st h) (some (.inl (some (.int (fn_bi fd2))), hM al (fd_W MM ga gb (nI b2)) N)) = ai_run (D + 1) 185 4 [.ref 0, .int (nI p), .int (nI h), .int (nI (fd_su (fd_f A c) h)), .int (fn_bi rk), .int 0, .int (fn_bi fd3), .int (nI (r + 1)), ai_un] [] (hM al (fd_W MM ga gb (nI b2)) N) := fun x6 => by
          rw [fb_s, bq_185_9]
          cases fd2 with
          | true => exact ⟨true, by rw [if_neg (show ¬ fn_bi true = 0 by decide), bq_185_10, bq_185_12, bq_185_13, nI_1]; rfl⟩
          | false =>
            cases x6 with
            | true => exact ⟨true, by rw [if_pos (show fn_bi false = 0 from rfl), if_neg (show ¬ fn_bi true = 0 by decide), bq_185_10, bq_185_12, bq_185_13, nI_1]; rfl⟩
            | false => exact ⟨false, by rw [if_pos (show fn_bi false = 0 from rfl), if_pos (show fn_bi false = 0 from rfl), bq_185_11, bq_185_12, bq_185_13, nI_1]; rfl⟩
        obtain ⟨fd3, hrun⟩ := run fd
        obtain ⟨g34', g35', b', fd', p1, p2, p3⟩ := fl_185m hz hs hh hH hb0 m (r + 1) ga gb b2 fd3 ai_un (by omega) hc' hP'
        refine ⟨g34', g35', b', fd', ?_, fun k hk => by rw [p2 k hk, u2 k (by omega), pk_un (by omega)], p3⟩
        rw [if_neg (show ¬ fn_bi true = 0 by decide), bq_185_8, i8, cond_true, nI_1, nI_clamp (n := h) (by omega), fd_W34, u1, hrun]
        exact p1
theorem fd_min {al : Nat × Nat} {N : Nat → Nat → Int64} {p : Nat} {rk : Bool} {A : fd_A} {MM : Nat → Nat → Int32} (hz : fd_Zm A p MM) (hs : fd_sp A (MM 37)) : ∀ (m h d : Nat), h + m = A.1 → fd_Hm al N p rk A MM (d + m) h
  | 0, h, d, hm => fun c g34 g35 b v6 v7 v8 hb hlt hc => by
    have e : h = A.1 := by omega
    have hV : fd_V A rk c := fun k hk => ⟨((hc k (by omega)).1).2, (hc k (by omega)).2⟩
    obtain ⟨g35', p1, p2⟩ := fl_185c (d := d) (al := al) (N := N) (g34 := g34) (b := nI (fd_su (fd_f A c) h)) hz A.1 0 g35 (.int (nI p)) (.int (nI h)) (.int (nI (fd_su (fd_f A c) h))) (.int (fn_bi rk)) (.int 0) ai_un ai_un (by omega) (fun j hj => absurd hj (Nat.not_lt_zero _))
    have hS : fd_S A c = fd_su (fd_f A c) h := by unfold fd_S; rw [e]
    refine ⟨g34, g35', fd_su (fd_f A c) h, true, ?_, fun _ _ => rfl, Or.inr ⟨hlt, c, ⟨hV, fun _ _ => rfl⟩, hS, fun j hj => by rw [p2 j hj]; exact ((hc j (by omega)).1).1, fun a' ha' => ?_⟩⟩
    · rw [bq_185_0, show (fd_W MM g34 g35 (nI b)) 0 4 = nI A.1 from hz.1.2.2.2.1, if_pos (by rw [e]), fd_W52]
      exact p1
    · have hSa : fd_S A a' = fd_su (fd_f A c) h := by
        rw [← hS]
        exact fd_su_cg A.1 (fun i hi => by unfold fd_f; rw [ha'.2 i (by omega)])
      exact ⟨by omega, fun _ j hj _ => by rw [ha'.2 j (by omega)]; exact Nat.le_refl _⟩
  | m + 1, h, d, hm => fun c g34 g35 b v6 v7 v8 hb hlt hc => by
    have hn := hz.1.1
    have hne : ¬ nI h = nI A.1 := fun z => by have := (nI_eq (by omega) (by omega)).mp z; omega
    obtain ⟨g34', g35', b', fd', p1, p2, p3⟩ := fl_185m (D := d + m) hz hs (show h < A.1 by omega) (fd_min (al := al) (N := N) (rk := rk) hz hs m (h + 1) d (by omega)) (b0 := b) (g0 := g35) hb A.2.1 0 g34 g35 b false ai_un (by omega) hc (Or.inl ⟨rfl, rfl, fun a ha => absurd ha.2 (Nat.not_lt_zero _)⟩)
    refine ⟨g34', g35', b', fd', ?_, p2, p3⟩
    rw [bq_185_0, show (fd_W MM g34 g35 (nI b)) 0 4 = nI A.1 from hz.1.2.2.2.1, if_neg hne, bq_185_3]
    exact p1
