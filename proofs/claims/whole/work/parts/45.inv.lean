/-! the relation of the two worlds, group by group (each group speaks of whole rows, so that a write to another row leaves it by itself) -/
def fn_land (n : Nat) (c0 : Int32) (r10 r11 r12 r13 r14 r15 r16 r17 r18 r19 : Nat → Int32) (m5 : Int32) (s5 s6 s7 s8 s9 s10 s11 s12 s13 s14 : Nat → Int32) : Prop := (n ≤ 9 ∧ c0 = nI n ∧ m5 = nI n) ∧ (∀ j : Nat, j < 9 → r10 j = s5 j ∧ r11 j = s6 j ∧ r12 j = s7 j ∧ r13 j = s8 j ∧ r14 j = s9 j ∧ r15 j = s10 j) ∧ (∀ j : Nat, j < 90 → r16 j = s11 j ∧ r17 j = s12 j ∧ r18 j = s13 j) ∧ (∀ j : Nat, j < 81 → r19 j = s14 j) ∧
  (∀ j : Nat, j < 9 → (0 ≤ r10 j ∧ r10 j ≤ 1000000) ∧ (0 ≤ r11 j ∧ r11 j ≤ 1000000) ∧ (0 ≤ r12 j ∧ r12 j ≤ 999) ∧ ∃ q : Nat, q ≤ 10 ∧ r15 j = nI q ∧ ∀ k : Nat, k < q → (1 ≤ r16 (10 * j + k) ∧ r16 (10 * j + k) ≤ 9) ∧ (0 ≤ r17 (10 * j + k) ∧ r17 (10 * j + k) ≤ 3) ∧ 0 ≤ r18 (10 * j + k) ∧ r18 (10 * j + k) ≤ 99) ∧ ∀ j : Nat, j < 81 → 0 ≤ r19 j ∧ r19 j ≤ 48
/-- the place that the class would tell of a fault -/
def fn_pl (c k : Int32) (r : Nat → Int32) : Int32 := if 0 ≤ c ∧ c < k then r c.toNatClampNeg else -1
def fn_now (np t : Nat) (c12 c13 c14 m8 m9 m1 m2 pl : Int32) : Prop := t < 200 ∧ c12 = nI t ∧ m8 = nI t ∧ (m1, m2) = (c14, if c14 = 4 then pl else -1) ∧ c13 = m9 ∧ ((np = 0 ∧ c13 = -1) ∨ ∃ q : Nat, q < np ∧ c13 = nI q)
def fn_cnt (f : Nat → Int32) : Nat → Nat
  | 0 => 0
  | k + 1 => fn_cnt f k + (if f k = -1 then 0 else 1)
def fn_cal (np : Nat) (c2 : Int32) (r21 r22 : Nat → Int32) (m6 : Int32) (s15 s16 : Nat → Int32) : Prop := (∃ q : Nat, q ≤ 8 ∧ c2 = nI q ∧ m6 = nI q ∧ fn_cnt r22 200 = q) ∧ ∀ j : Nat, j < 200 → r21 j = s15 j ∧ r22 j = s16 j ∧ (0 ≤ r21 j ∧ r21 j ≤ 4) ∧ (r22 j = -1 ∨ ∃ q : Nat, q < np ∧ r22 j = nI q)
def fn_past (t : Nat) (r2 r3 s17 s18 : Nat → Int32) : Prop := ∀ j : Nat, j < t → r2 j = s17 j ∧ r3 j = s18 j
/-- a household in a set of bars -/
def fn_bt (x : Int32) (j : Nat) : Bool := decide (((x >>> (nI j &&& 31)) &&& (1 : Int32)) = 1)
def fn_sy (r8 : Nat → Int32) : Prop := ∀ i j : Nat, i < 8 → j < 8 → fn_bt (r8 i) j = fn_bt (r8 j) i
def fn_ldg (r1 r8 : Nat → Int32) (m57 : Int32) (s36 : Nat → Int32) : Prop := fn_sy r8 ∧ ∃ k : Nat, k ≤ 8 ∧ m57 = nI k ∧ (∀ j : Nat, j < k → r1 j = s36 j) ∧ ∀ j : Nat, k ≤ j → j < 8 → r1 j = -1
def fn_told (c12 c13 : Int32) (r50 : Nat → Int32) (m61 m62 : Int32) (s40 : Nat → Int32) : Prop := ∃ f k : Nat, f < 200 ∧ k ≤ 21 ∧ c12 = nI f ∧ c13 = nI (f + k) - 1 ∧ m61 = nI f ∧ m62 = nI k ∧ ∀ j : Nat, j < k → r50 j = s40 j
def fn_plz (c0 : Int32) (r53 : Nat → Int32) (m7 : Int32) (s21 : Nat → Int32) : Prop := ∃ k : Nat, k ≤ 60 ∧ c0 = nI k ∧ m7 = nI k ∧ ∀ j : Nat, j < k → r53 j = s21 j
/-- the tape -/
def fn_tap (c0 : Int32) (r29 : Nat → Int32) (m33 : Int32) (s23 : Nat → Int32) : Prop := ∃ k : Nat, k ≤ 400 ∧ c0 = nI k ∧ m33 = nI k ∧ ∀ j : Nat, j < k → r29 j = s23 j &&& 255 ∧ 0 ≤ r29 j ∧ r29 j ≤ 255
def fn_flt (c2 c3 m3 : Int32) : Prop := c2 = m3 ∧ ∃ k : Nat, k ≤ 401 ∧ c3 = nI k
/-- plea a is heard before plea b -/
def fn_bef (u : Nat → Int32) (a b : Nat) : Prop := u b < u a ∨ u a = u b ∧ a < b
/-- the pleas that wait, in their order -/
def fn_ord (k w : Nat) (W : Nat → Nat) (u hd : Nat → Int32) : Prop := (∀ i : Nat, i < w → W i < k ∧ hd (W i) = -2) ∧ (∀ j : Nat, j < k → hd j = -2 → ∃ i : Nat, i < w ∧ W i = j) ∧ ∀ i i' : Nat, i < i' → i' < w → fn_bef u (W i) (W i')
def fn_que (c0 c1 : Int32) (r52 r53 r54 : Nat → Int32) (m7 : Int32) (s19 s20 s21 : Nat → Int32) : Prop := ∃ (k w : Nat) (W : Nat → Nat), w ≤ k ∧ k ≤ 60 ∧ c0 = nI k ∧ c1 = nI w ∧ m7 = nI k ∧ (∀ j : Nat, j < k → r52 j = s19 j - s20 j ∧ r53 j = s21 j) ∧ (∀ i : Nat, i < w → r54 i = nI (W i)) ∧ fn_ord k w W r52 r53
/-- one rule: row p of the class's numbers against row p of the reference's -/
def fn_ru (p : Nat) (r26 s26 s27 s28 s29 s30 s31 s32 s33 : Nat → Int32) : Prop := (r26 (23 * p) = s28 p ∧ (s28 p = 0 ∨ s28 p = 1)) ∧ (∃ q : Nat, q ≤ 4 ∧ r26 (23 * p + 1) = nI q ∧ s26 p = nI q ∧ ∀ k : Nat, k < q → (r26 (23 * p + 3 + 3 * k) = s29 (4 * p + k) ∧ ∃ x : Nat, x ≤ 5 ∧ s29 (4 * p + k) = nI x) ∧ r26 (23 * p + 3 + 3 * k + 1) = s30 (4 * p + k) ∧ r26 (23 * p + 3 + 3 * k + 2) = s31 (4 * p + k)) ∧ ∃ q : Nat, q ≤ 4 ∧ r26 (23 * p + 2) = nI q ∧ s27 p = nI q ∧ ∀ k : Nat, k < q → (r26 (23 * p + 15 + 2 * k) = s33 (4 * p + k) ∧ 0 ≤ s33 (4 * p + k) ∧ s33 (4 * p + k) ≤ 999) ∧ ((s32 (4 * p + k) = -1 ∧ r26 (23 * p + 15 + 2 * k + 1) = 6) ∨ ∃ x : Nat, x ≤ 5 ∧ s32 (4 * p + k) = nI x ∧ r26 (23 * p + 15 + 2 * k + 1) = nI x)
/-- the ordinances -/
def fn_rul (c2 : Int32) (r24 r25 r26 : Nat → Int32) (v6 m41 : Int32) (s24 s25 s26 s27 s28 s29 s30 s31 s32 s33 : Nat → Int32) : Prop := v6 = 1 ∧ ∃ k : Nat, k ≤ 10 ∧ c2 = nI k ∧ m41 = nI k ∧ ∀ o : Nat, o < k → (∃ f : Nat, f < 200 ∧ r24 o = nI f ∧ s24 o = nI f) ∧ ∃ m : Nat, m ≤ 12 ∧ r25 o = nI m ∧ s25 o = nI m ∧ ∀ r : Nat, r < m → fn_ru (12 * o + r) r26 s26 s27 s28 s29 s30 s31 s32 s33
def fn_I (n np t : Nat) (M MM : Nat → Nat → Int32) : Prop := fn_court n (M 4 0) (M 5) (M 6) (M 7) (M 8) (MM 0 4) (MM 1) (MM 2) (MM 3) (MM 4) ∧ fn_land np (M 9 0) (M 10) (M 11) (M 12) (M 13) (M 14) (M 15) (M 16) (M 17) (M 18) (M 19) (MM 0 5) (MM 5) (MM 6) (MM 7) (MM 8) (MM 9) (MM 10) (MM 11) (MM 12) (MM 13) (MM 14) ∧ fn_cal np (M 20 2) (M 21) (M 22) (MM 0 6) (MM 15) (MM 16) ∧ fn_now np t (M 0 12) (M 0 13) (M 0 14) (MM 0 8) (MM 0 9) (MM 0 1) (MM 0 2) (fn_pl (M 32 3) (M 28 3) (M 31)) ∧ fn_past t (M 2) (M 3) (MM 17) (MM 18) ∧ fn_ldg (M 1) (M 8) (MM 0 57) (MM 36) ∧ fn_told (M 45 12) (M 45 13) (M 50) (MM 0 61) (MM 0 62) (MM 40) ∧ fn_plz (M 51 0) (M 53) (MM 0 7) (MM 21) ∧ fn_tap (M 28 0) (M 29) (MM 0 33) (MM 23) ∧ fn_que (M 51 0) (M 51 1) (M 52) (M 53) (M 54) (MM 0 7) (MM 19) (MM 20) (MM 21) ∧ fn_flt (M 32 2) (M 28 3) (MM 0 3) ∧ fn_rul (M 23 2) (M 24) (M 25) (M 26) (M 27 6) (MM 0 41) (MM 24) (MM 25) (MM 26) (MM 27) (MM 28) (MM 29) (MM 30) (MM 31) (MM 32) (MM 33)
theorem fn_I.court {n np t : Nat} {M MM : Nat → Nat → Int32} (h : fn_I n np t M MM) : fn_court n (M 4 0) (M 5) (M 6) (M 7) (M 8) (MM 0 4) (MM 1) (MM 2) (MM 3) (MM 4) := h.1
theorem fn_I.land {n np t : Nat} {M MM : Nat → Nat → Int32} (h : fn_I n np t M MM) : fn_land np (M 9 0) (M 10) (M 11) (M 12) (M 13) (M 14) (M 15) (M 16) (M 17) (M 18) (M 19) (MM 0 5) (MM 5) (MM 6) (MM 7) (MM 8) (MM 9) (MM 10) (MM 11) (MM 12) (MM 13) (MM 14) := h.2.1
theorem fn_I.cal {n np t : Nat} {M MM : Nat → Nat → Int32} (h : fn_I n np t M MM) : fn_cal np (M 20 2) (M 21) (M 22) (MM 0 6) (MM 15) (MM 16) := h.2.2.1
theorem fn_I.now {n np t : Nat} {M MM : Nat → Nat → Int32} (h : fn_I n np t M MM) : fn_now np t (M 0 12) (M 0 13) (M 0 14) (MM 0 8) (MM 0 9) (MM 0 1) (MM 0 2) (fn_pl (M 32 3) (M 28 3) (M 31)) := h.2.2.2.1
theorem fn_I.past {n np t : Nat} {M MM : Nat → Nat → Int32} (h : fn_I n np t M MM) : fn_past t (M 2) (M 3) (MM 17) (MM 18) := h.2.2.2.2.1
theorem fn_I.ldg {n np t : Nat} {M MM : Nat → Nat → Int32} (h : fn_I n np t M MM) : fn_ldg (M 1) (M 8) (MM 0 57) (MM 36) := h.2.2.2.2.2.1
theorem fn_I.told {n np t : Nat} {M MM : Nat → Nat → Int32} (h : fn_I n np t M MM) : fn_told (M 45 12) (M 45 13) (M 50) (MM 0 61) (MM 0 62) (MM 40) := h.2.2.2.2.2.2.1
theorem fn_I.plz {n np t : Nat} {M MM : Nat → Nat → Int32} (h : fn_I n np t M MM) : fn_plz (M 51 0) (M 53) (MM 0 7) (MM 21) := h.2.2.2.2.2.2.2.1
theorem fn_I.tap {n np t : Nat} {M MM : Nat → Nat → Int32} (h : fn_I n np t M MM) : fn_tap (M 28 0) (M 29) (MM 0 33) (MM 23) := h.2.2.2.2.2.2.2.2.1
theorem fn_I.que {n np t : Nat} {M MM : Nat → Nat → Int32} (h : fn_I n np t M MM) : fn_que (M 51 0) (M 51 1) (M 52) (M 53) (M 54) (MM 0 7) (MM 19) (MM 20) (MM 21) := h.2.2.2.2.2.2.2.2.2.1
theorem fn_I.flt {n np t : Nat} {M MM : Nat → Nat → Int32} (h : fn_I n np t M MM) : fn_flt (M 32 2) (M 28 3) (MM 0 3) := h.2.2.2.2.2.2.2.2.2.2.1
theorem fn_I.rul {n np t : Nat} {M MM : Nat → Nat → Int32} (h : fn_I n np t M MM) : fn_rul (M 23 2) (M 24) (M 25) (M 26) (M 27 6) (MM 0 41) (MM 24) (MM 25) (MM 26) (MM 27) (MM 28) (MM 29) (MM 30) (MM 31) (MM 32) (MM 33) := h.2.2.2.2.2.2.2.2.2.2.2
/-- the groups behind 'now', in one -/
theorem fn_I.rest {n np t : Nat} {M MM : Nat → Nat → Int32} (h : fn_I n np t M MM) : fn_past t (M 2) (M 3) (MM 17) (MM 18) ∧ fn_ldg (M 1) (M 8) (MM 0 57) (MM 36) ∧ fn_told (M 45 12) (M 45 13) (M 50) (MM 0 61) (MM 0 62) (MM 40) ∧ fn_plz (M 51 0) (M 53) (MM 0 7) (MM 21) ∧ fn_tap (M 28 0) (M 29) (MM 0 33) (MM 23) ∧ fn_que (M 51 0) (M 51 1) (M 52) (M 53) (M 54) (MM 0 7) (MM 19) (MM 20) (MM 21) ∧ fn_flt (M 32 2) (M 28 3) (MM 0 3) ∧ fn_rul (M 23 2) (M 24) (M 25) (M 26) (M 27 6) (MM 0 41) (MM 24) (MM 25) (MM 26) (MM 27) (MM 28) (MM 29) (MM 30) (MM 31) (MM 32) (MM 33) := h.2.2.2.2
/-- the answer's reason alone changes -/
theorem fn_I.no {n np t : Nat} {M MM : Nat → Nat → Int32} (h : fn_I n np t M MM) (e : Int32) (he : e ≠ 4 := by decide) : fn_I n np t (fn_noC M e) (fn_noM (fn_z MM) e) :=
  ⟨h.court, h.land, h.cal, ⟨h.now.1, h.now.2.1, h.now.2.2.1, by rw [if_neg (show ¬ (fn_noC M e 0 14 = 4) from he)]; rfl, h.now.2.2.2.2⟩, h.rest⟩
/-- one call: both answer alike, and the worlds are related again -/
def fn_S (miC miM : Nat) (as : List Value) (M MM : Nat → Nat → Int32) : Prop := ∀ (al am : Nat × Nat) (kl : Nat) (N : Nat → Nat → Int64), ∃ (v : Int32) (n np t : Nat) (M1 MM1 : Nat → Nat → Int32), ai_run 200 miC 0 (ai_ent (ai_mx miC) (.ref 0 :: as)) [] (hC al kl M) = some (.inl (some (.int v)), hC al kl M1) ∧ ai_run 200 miM 0 (ai_ent (ai_mx miM) (.ref 0 :: as)) [] (hM am MM N) = some (.inl (some (.int v)), hM am MM1 N) ∧ (M1 49 = M 49 ∧ M1 45 10 = M 45 10) ∧ fn_I n np t M1 MM1
theorem ft_105 {n np t : Nat} {M MM : Nat → Nat → Int32} (h : fn_I n np t M MM) (a b c : Int32) : fn_S 105 153 [.int a, .int b, .int c] M MM := by
  intro al am kl N
  rcases fs_105 (d := 199) (al := al) (am := am) (kl := kl) (N := N) (a := a) (b := b) (c := c) h.court with ⟨e, he, h1, h2⟩ | ⟨hn, ha, hb, hc, h1, h2⟩
  · exact ⟨_, n, np, t, _, _, h1, h2, ⟨rfl, rfl⟩, h.no e he⟩
  · exact ⟨_, n + 1, np, t, _, _, h1, h2, ⟨rfl, rfl⟩, ⟨fn_hh h.court hn ha hb hc, h.land, h.cal, ⟨h.now.1, h.now.2.1, h.now.2.2.1, rfl, h.now.2.2.2.2⟩, h.rest⟩⟩
