/-! the relation of the two worlds, group by group (each group speaks of whole rows, so that a write to another row leaves it by itself) -/
def fn_land (n : Nat) (c0 : Int32) (r10 r11 r12 r13 r14 r15 r16 r17 r18 r19 : Nat → Int32) (m5 : Int32) (s5 s6 s7 s8 s9 s10 s11 s12 s13 s14 : Nat → Int32) : Prop := (n ≤ 9 ∧ c0 = nI n ∧ m5 = nI n) ∧ (∀ j : Nat, j < 9 → r10 j = s5 j ∧ r11 j = s6 j ∧ r12 j = s7 j ∧ r13 j = s8 j ∧ r14 j = s9 j ∧ r15 j = s10 j) ∧ (∀ j : Nat, j < 90 → r16 j = s11 j ∧ r17 j = s12 j ∧ r18 j = s13 j) ∧ (∀ j : Nat, j < 81 → r19 j = s14 j) ∧
  (∀ j : Nat, j < 9 → (0 ≤ r10 j ∧ r10 j ≤ 1000000) ∧ (0 ≤ r11 j ∧ r11 j ≤ 1000000) ∧ (0 ≤ r12 j ∧ r12 j ≤ 999) ∧ ∃ q : Nat, q ≤ 10 ∧ r15 j = nI q ∧ ∀ k : Nat, k < q → (1 ≤ r16 (10 * j + k) ∧ r16 (10 * j + k) ≤ 9) ∧ (0 ≤ r17 (10 * j + k) ∧ r17 (10 * j + k) ≤ 3) ∧ 0 ≤ r18 (10 * j + k) ∧ r18 (10 * j + k) ≤ 99) ∧ ∀ j : Nat, j < 81 → 0 ≤ r19 j ∧ r19 j ≤ 48
def fn_now (np t : Nat) (c12 c13 c14 m8 m9 m1 : Int32) : Prop := t < 200 ∧ c12 = nI t ∧ m8 = nI t ∧ c14 = m1 ∧ c13 = m9 ∧ ((np = 0 ∧ c13 = -1) ∨ ∃ q : Nat, q < np ∧ c13 = nI q)
def fn_cnt (f : Nat → Int32) : Nat → Nat
  | 0 => 0
  | k + 1 => fn_cnt f k + (if f k = -1 then 0 else 1)
def fn_cal (np : Nat) (c2 : Int32) (r21 r22 : Nat → Int32) (m6 : Int32) (s15 s16 : Nat → Int32) : Prop := (∃ q : Nat, q ≤ 8 ∧ c2 = nI q ∧ m6 = nI q ∧ fn_cnt r22 200 = q) ∧ ∀ j : Nat, j < 200 → r21 j = s15 j ∧ r22 j = s16 j ∧ (0 ≤ r21 j ∧ r21 j ≤ 4) ∧ (r22 j = -1 ∨ ∃ q : Nat, q < np ∧ r22 j = nI q)
def fn_past (t : Nat) (r2 r3 s17 s18 : Nat → Int32) : Prop := ∀ j : Nat, j < t → r2 j = s17 j ∧ r3 j = s18 j
def fn_ldg (r1 : Nat → Int32) (m57 : Int32) (s36 : Nat → Int32) : Prop := ∃ k : Nat, k ≤ 8 ∧ m57 = nI k ∧ (∀ j : Nat, j < k → r1 j = s36 j) ∧ ∀ j : Nat, k ≤ j → j < 8 → r1 j = -1
def fn_told (c12 c13 : Int32) (r50 : Nat → Int32) (m61 m62 : Int32) (s40 : Nat → Int32) : Prop := ∃ f k : Nat, f < 200 ∧ k ≤ 21 ∧ c12 = nI f ∧ c13 = nI (f + k) - 1 ∧ m61 = nI f ∧ m62 = nI k ∧ ∀ j : Nat, j < k → r50 j = s40 j
def fn_plz (c0 : Int32) (r53 : Nat → Int32) (m7 : Int32) (s21 : Nat → Int32) : Prop := ∃ k : Nat, k ≤ 60 ∧ c0 = nI k ∧ m7 = nI k ∧ ∀ j : Nat, j < k → r53 j = s21 j
def fn_I (n np t : Nat) (M MM : Nat → Nat → Int32) : Prop := fn_court n (M 4 0) (M 5) (M 6) (M 7) (M 8) (MM 0 4) (MM 1) (MM 2) (MM 3) (MM 4) ∧ fn_land np (M 9 0) (M 10) (M 11) (M 12) (M 13) (M 14) (M 15) (M 16) (M 17) (M 18) (M 19) (MM 0 5) (MM 5) (MM 6) (MM 7) (MM 8) (MM 9) (MM 10) (MM 11) (MM 12) (MM 13) (MM 14) ∧ fn_cal np (M 20 2) (M 21) (M 22) (MM 0 6) (MM 15) (MM 16) ∧ fn_now np t (M 0 12) (M 0 13) (M 0 14) (MM 0 8) (MM 0 9) (MM 0 1) ∧ fn_past t (M 2) (M 3) (MM 17) (MM 18) ∧ fn_ldg (M 1) (MM 0 57) (MM 36) ∧ fn_told (M 45 12) (M 45 13) (M 50) (MM 0 61) (MM 0 62) (MM 40) ∧ fn_plz (M 51 0) (M 53) (MM 0 7) (MM 21)
theorem fn_I.court {n np t : Nat} {M MM : Nat → Nat → Int32} (h : fn_I n np t M MM) : fn_court n (M 4 0) (M 5) (M 6) (M 7) (M 8) (MM 0 4) (MM 1) (MM 2) (MM 3) (MM 4) := h.1
theorem fn_I.land {n np t : Nat} {M MM : Nat → Nat → Int32} (h : fn_I n np t M MM) : fn_land np (M 9 0) (M 10) (M 11) (M 12) (M 13) (M 14) (M 15) (M 16) (M 17) (M 18) (M 19) (MM 0 5) (MM 5) (MM 6) (MM 7) (MM 8) (MM 9) (MM 10) (MM 11) (MM 12) (MM 13) (MM 14) := h.2.1
theorem fn_I.cal {n np t : Nat} {M MM : Nat → Nat → Int32} (h : fn_I n np t M MM) : fn_cal np (M 20 2) (M 21) (M 22) (MM 0 6) (MM 15) (MM 16) := h.2.2.1
theorem fn_I.now {n np t : Nat} {M MM : Nat → Nat → Int32} (h : fn_I n np t M MM) : fn_now np t (M 0 12) (M 0 13) (M 0 14) (MM 0 8) (MM 0 9) (MM 0 1) := h.2.2.2.1
theorem fn_I.past {n np t : Nat} {M MM : Nat → Nat → Int32} (h : fn_I n np t M MM) : fn_past t (M 2) (M 3) (MM 17) (MM 18) := h.2.2.2.2.1
theorem fn_I.ldg {n np t : Nat} {M MM : Nat → Nat → Int32} (h : fn_I n np t M MM) : fn_ldg (M 1) (MM 0 57) (MM 36) := h.2.2.2.2.2.1
theorem fn_I.told {n np t : Nat} {M MM : Nat → Nat → Int32} (h : fn_I n np t M MM) : fn_told (M 45 12) (M 45 13) (M 50) (MM 0 61) (MM 0 62) (MM 40) := h.2.2.2.2.2.2.1
theorem fn_I.plz {n np t : Nat} {M MM : Nat → Nat → Int32} (h : fn_I n np t M MM) : fn_plz (M 51 0) (M 53) (MM 0 7) (MM 21) := h.2.2.2.2.2.2.2
/-- the groups behind 'now', in one -/
theorem fn_I.rest {n np t : Nat} {M MM : Nat → Nat → Int32} (h : fn_I n np t M MM) : fn_past t (M 2) (M 3) (MM 17) (MM 18) ∧ fn_ldg (M 1) (MM 0 57) (MM 36) ∧ fn_told (M 45 12) (M 45 13) (M 50) (MM 0 61) (MM 0 62) (MM 40) ∧ fn_plz (M 51 0) (M 53) (MM 0 7) (MM 21) := h.2.2.2.2
/-- the answer's reason alone changes -/
theorem fn_I.no {n np t : Nat} {M MM : Nat → Nat → Int32} (h : fn_I n np t M MM) (e : Int32) : fn_I n np t (fn_noC M e) (fn_noM (fn_z MM) e) :=
  ⟨h.court, h.land, h.cal, ⟨h.now.1, h.now.2.1, h.now.2.2.1, rfl, h.now.2.2.2.2⟩, h.rest⟩
/-- one call: both answer alike, and the worlds are related again -/
def fn_S (miC miM : Nat) (as : List Value) (M MM : Nat → Nat → Int32) : Prop := ∀ (al am : Nat × Nat) (kl : Nat) (N : Nat → Nat → Int64), ∃ (v : Int32) (n np t : Nat) (M1 MM1 : Nat → Nat → Int32), ai_run 200 miC 0 (ai_ent (ai_mx miC) (.ref 0 :: as)) [] (hC al kl M) = some (.inl (some (.int v)), hC al kl M1) ∧ ai_run 200 miM 0 (ai_ent (ai_mx miM) (.ref 0 :: as)) [] (hM am MM N) = some (.inl (some (.int v)), hM am MM1 N) ∧ fn_I n np t M1 MM1
theorem ft_105 {n np t : Nat} {M MM : Nat → Nat → Int32} (h : fn_I n np t M MM) (a b c : Int32) : fn_S 105 153 [.int a, .int b, .int c] M MM := by
  intro al am kl N
  rcases fs_105 (d := 199) (al := al) (am := am) (kl := kl) (N := N) (a := a) (b := b) (c := c) h.court with ⟨e, h1, h2⟩ | ⟨hn, ha, hb, hc, h1, h2⟩
  · exact ⟨_, n, np, t, _, _, h1, h2, h.no e⟩
  · exact ⟨_, n + 1, np, t, _, _, h1, h2, ⟨fn_hh h.court hn ha hb hc, h.land, h.cal, ⟨h.now.1, h.now.2.1, h.now.2.2.1, rfl, h.now.2.2.2.2⟩, h.rest⟩⟩
