/-! lodgings: how rooms stand to each other -/
def fd_bi (b : Bool) (t : Nat) : Int32 := bif b then (1 : Int32) <<< (nI t &&& 31) else 0
theorem fw_22 {d : Nat} {h : ai_Hp} {b : Bool} {t : Nat} : ai_run d 22 0 [.int (fn_bi b), .int (nI t)] [] h = some (.inl (some (.int (fd_bi b t))), h) := by
  cases b with
  | true => rw [bq_22_0, if_neg (show ¬ fn_bi true = 0 by decide), bq_22_2]; rfl
  | false => rw [bq_22_0, if_pos (show fn_bi false = 0 from rfl), bq_22_1, bq_22_2]; rfl
theorem fw_22t {d : Nat} {h : ai_Hp} {t : Nat} : ai_run d 22 0 [.int 1, .int (nI t)] [] h = some (.inl (some (.int (fd_bi true t))), h) := fw_22 (b := true)
theorem fw_22f {d : Nat} {h : ai_Hp} {t : Nat} : ai_run d 22 0 [.int 0, .int (nI t)] [] h = some (.inl (some (.int (fd_bi false t))), h) := fw_22 (b := false)
theorem fd_bs_z {P : Nat → Prop} (h : ∀ t, t < 10 → ¬ P t) : fd_bs 0 P := ⟨0, by omega, rfl, fun t ht => by rw [Nat.zero_testBit]; exact ⟨fun z => absurd z (by decide), fun z => absurd z (h t ht)⟩⟩
theorem fd_bs.or {x : Int32} {P : Nat → Prop} {t : Nat} {b : Bool} (h : fd_bs x P) (ht : t < 10) : fd_bs (x ||| fd_bi b t) (fun q => P q ∨ (b = true ∧ q = t)) := by
  obtain ⟨v, v1, v2, v3⟩ := h
  cases b with
  | false =>
    refine ⟨v ||| 0, by rw [Nat.or_zero]; exact v1, by rw [v2, ← fd_or]; rfl, fun q hq => ?_⟩
    rw [Nat.or_zero, v3 q hq]
    exact ⟨fun z => Or.inl z, fun z => z.elim id (fun y => absurd y.1 (by decide))⟩
  | true =>
    obtain ⟨w, w1, w2, w3⟩ := fd_bs_1 ht
    refine ⟨v ||| w, Nat.or_lt_two_pow (n := 10) v1 w1, by rw [v2, ← fd_or, ← w2]; rfl, fun q hq => ?_⟩
    rw [Nat.testBit_or, Bool.or_eq_true, v3 q hq, w3 q hq]
    exact ⟨fun z => z.elim Or.inl (fun y => Or.inr ⟨rfl, y⟩), fun z => z.elim Or.inl (fun y => Or.inr y.2)⟩
def fd_Y (A : fd_A) (p : Nat) (π : Nat → Nat) (c4 : Int32) (s15 s5 s6 s8 s16 s17 s18 : Nat → Int32) (c33 : Int32) (s34 s35 : Nat → Int32) : Prop := fd_Z A p c4 s15 s5 s6 s8 s16 s17 s18 ∧ c33 = nI A.2.1 ∧ ∀ s, s < A.2.1 → s34 s = nI (π s) ∧ π s < A.2.1 ∧ s35 s = nI (A.2.2.2.2.2.2.2 (π s))
abbrev fd_Yc (A : fd_A) (p : Nat) (π : Nat → Nat) (M : Nat → Nat → Int32) : Prop := fd_Y A p π (M 4 0) (M 15) (M 5) (M 6) (M 8) (M 16) (M 17) (M 18) (M 33 2) (M 34) (M 35)
def fd_r1 (A : fd_A) (π : Nat → Nat) (s t : Nat) : Bool := decide (A.2.2.2.2.2.1 (π t) = A.2.2.2.2.2.1 (π s))
def fd_r2 (A : fd_A) (wc : Bool) (π : Nat → Nat) (s t : Nat) : Bool := !wc || decide (A.2.2.2.2.2.2.1 (π t) = A.2.2.2.2.2.2.1 (π s))
def fd_r3 (A : fd_A) (wd : Bool) (π : Nat → Nat) (s t : Nat) : Bool := !wd || decide (A.2.2.2.2.2.2.2 (π t) = A.2.2.2.2.2.2.2 (π s))
def fd_r4 (A : fd_A) (wc : Bool) (π : Nat → Nat) (s t : Nat) : Bool := !wc || decide (A.2.2.2.2.2.2.1 (π s) ≤ A.2.2.2.2.2.2.1 (π t))
def fd_r5 (A : fd_A) (wc : Bool) (π : Nat → Nat) (s t : Nat) : Bool := !wc || decide (A.2.2.2.2.2.2.1 (π t) ≤ A.2.2.2.2.2.2.1 (π s))
theorem fl_21a {d : Nat} {al : Nat × Nat} {kl p s t : Nat} {A : fd_A} {π : Nat → Nat} {wc wd : Bool} {M : Nat → Nat → Int32} (hY : fd_Yc A p π M) (hs : s < A.2.1) (ht : t < A.2.1) {v7 v8 v9 v10 : Value} : ai_run (d + 1) 21 1 [.ref 33, .int (nI p), .int (nI s), .int (fn_bi wc), .int (fn_bi wd), .int (nI (10 * p + π s)), .int (nI t), v7, v8, v9, v10] [] (hC al kl M) = ai_run (d + 1) 21 10 [.ref 33, .int (nI p), .int (nI s), .int (fn_bi wc), .int (fn_bi wd), .int (nI (10 * p + π s)), .int (nI t), .int (nI (10 * p + π t)), .int (fn_bi (fd_r1 A π s t)), .int (fn_bi (fd_r2 A wc π s t)), .int (fn_bi (fd_r3 A wd π s t))] [.int (fd_bi (fd_r1 A π s t) t), .int (M 36 s), .int (nI s), .ref 36] (hC al kl M) := by
  obtain ⟨⟨⟨z1, z2, z3, -, -⟩, zh, zr⟩, y2, y3⟩ := hY
  obtain ⟨s1, s2, s3⟩ := y3 s hs
  obtain ⟨t1, t2, t3⟩ := y3 t ht
  obtain ⟨⟨hs1, hs1'⟩, ⟨hs2, hs2'⟩, hs3, hs3'⟩ := zr (π s) s2
  obtain ⟨⟨ht1, ht1'⟩, ⟨ht2, ht2'⟩, ht3, ht3'⟩ := zr (π t) t2
  have i9s : ai_in (nI (10 * p + π s)) 90 = true := by rw [fi_in (by omega)]; exact decide_eq_true (by omega)
  have i9t : ai_in (nI (10 * p + π t)) 90 = true := by rw [fi_in (by omega)]; exact decide_eq_true (by omega)
  have i10s : ai_in (nI s) 10 = true := by rw [fi_in (by omega)]; exact decide_eq_true (by omega)
  have i10t : ai_in (nI t) 10 = true := by rw [fi_in (by omega)]; exact decide_eq_true (by omega)
  have a1 : ai_run (d + 1) 21 1 [.ref 33, .int (nI p), .int (nI s), .int (fn_bi wc), .int (fn_bi wd), .int (nI (10 * p + π s)), .int (nI t), v7, v8, v9, v10] [] (hC al kl M) = ai_run (d + 1) 21 3 [.ref 33, .int (nI p), .int (nI s), .int (fn_bi wc), .int (fn_bi wd), .int (nI (10 * p + π s)), .int (nI t), .int (nI (10 * p + π t)), ai_un, ai_un, ai_un] [.int (fn_bi (fd_r1 A π s t))] (hC al kl M) := by
    rw [bq_21_1, y2, if_neg (nI_ge ht (by omega)), i10t, cond_true, nI_clamp (n := t) (by omega), t1, fi_r.1, i9t, cond_true, i9s, cond_true, nI_clamp (n := 10 * p + π t) (by omega), nI_clamp (n := 10 * p + π s) (by omega), ht1, hs1]
    by_cases c : A.2.2.2.2.2.1 (π t) = A.2.2.2.2.2.1 (π s)
    · rw [if_pos (by rw [c]), show fd_r1 A π s t = true from decide_eq_true c]; rfl
    · rw [if_neg (fun z => c ((nI_eq (by omega) (by omega)).mp z)), bq_21_2, show fd_r1 A π s t = false from decide_eq_false c]; rfl
  have a2 : ∀ b : Bool, ai_run (d + 1) 21 3 [.ref 33, .int (nI p), .int (nI s), .int (fn_bi wc), .int (fn_bi wd), .int (nI (10 * p + π s)), .int (nI t), .int (nI (10 * p + π t)), ai_un, ai_un, ai_un] [.int (fn_bi b)] (hC al kl M) = ai_run (d + 1) 21 6 [.ref 33, .int (nI p), .int (nI s), .int (fn_bi wc), .int (fn_bi wd), .int (nI (10 * p + π s)), .int (nI t), .int (nI (10 * p + π t)), .int (fn_bi b), ai_un, ai_un] [.int (fn_bi (fd_r2 A wc π s t))] (hC al kl M) := fun b => by
    rw [bq_21_3]
    cases wc with
    | false => rw [if_pos (show fn_bi false = 0 from rfl), bq_21_4]; rfl
    | true =>
      rw [if_neg (show ¬ fn_bi true = 0 by decide), i9t, cond_true, i9s, cond_true, nI_clamp (n := 10 * p + π t) (by omega), nI_clamp (n := 10 * p + π s) (by omega), ht2, hs2]
      by_cases c : A.2.2.2.2.2.2.1 (π t) = A.2.2.2.2.2.2.1 (π s)
      · rw [if_pos (by rw [c]), bq_21_4, show fd_r2 A true π s t = true from decide_eq_true c]; rfl
      · rw [if_neg (fun z => c ((nI_eq (by omega) (by omega)).mp z)), bq_21_5, show fd_r2 A true π s t = false from decide_eq_false c]; rfl
  have a3 : ∀ b b' : Bool, ai_run (d + 1) 21 6 [.ref 33, .int (nI p), .int (nI s), .int (fn_bi wc), .int (fn_bi wd), .int (nI (10 * p + π s)), .int (nI t), .int (nI (10 * p + π t)), .int (fn_bi b), ai_un, ai_un] [.int (fn_bi b')] (hC al kl M) = ai_run (d + 1) 21 9 [.ref 33, .int (nI p), .int (nI s), .int (fn_bi wc), .int (fn_bi wd), .int (nI (10 * p + π s)), .int (nI t), .int (nI (10 * p + π t)), .int (fn_bi b), .int (fn_bi b'), ai_un] [.int (fn_bi (fd_r3 A wd π s t))] (hC al kl M) := fun b b' => by
    rw [bq_21_6]
    cases wd with
    | false => rw [if_pos (show fn_bi false = 0 from rfl), bq_21_7]; rfl
    | true =>
      rw [if_neg (show ¬ fn_bi true = 0 by decide), i10t, cond_true, i10s, cond_true, nI_clamp (n := t) (by omega), nI_clamp (n := s) (by omega), t3, s3]
      by_cases c : A.2.2.2.2.2.2.2 (π t) = A.2.2.2.2.2.2.2 (π s)
      · rw [if_pos (by rw [c]), bq_21_7, show fd_r3 A true π s t = true from decide_eq_true c]; rfl
      · rw [if_neg (fun z => c ((nI_eq (by omega) (by omega)).mp z)), bq_21_8, show fd_r3 A true π s t = false from decide_eq_false c]; rfl
  rw [a1, a2, a3, bq_21_9, i10s, cond_true, nI_clamp (n := s) (by omega), fw_22, fb_s]
theorem fl_21b {d : Nat} {al : Nat × Nat} {kl p s t : Nat} {A : fd_A} {π : Nat → Nat} {wc wd : Bool} {M : Nat → Nat → Int32} (hY : fd_Yc A p π M) (hs : s < A.2.1) (ht : t < A.2.1) {b b' b'' : Bool} {x y : Int32} : ai_run (d + 1) 21 10 [.ref 33, .int (nI p), .int (nI s), .int (fn_bi wc), .int (fn_bi wd), .int (nI (10 * p + π s)), .int (nI t), .int (nI (10 * p + π t)), .int (fn_bi b), .int (fn_bi b'), .int (fn_bi b'')] [.int x, .int y, .int (nI s), .ref 36] (hC al kl M) = ai_run (d + 1) 21 14 [.ref 33, .int (nI p), .int (nI s), .int (fn_bi wc), .int (fn_bi wd), .int (nI (10 * p + π s)), .int (nI t), .int (nI (10 * p + π t)), .int (fn_bi b), .int (fn_bi b'), .int (fn_bi b'')] [.int (fd_bi (fd_r4 A wc π s t) t), .int (M 37 s), .int (nI s), .ref 37] (hC al kl (ai_up M 36 s (y ||| x))) := by
  obtain ⟨⟨⟨z1, z2, z3, -, -⟩, zh, zr⟩, y2, y3⟩ := hY
  obtain ⟨s1, s2, s3⟩ := y3 s hs
  obtain ⟨t1, t2, t3⟩ := y3 t ht
  obtain ⟨-, ⟨hs2, hs2'⟩, -⟩ := zr (π s) s2
  obtain ⟨-, ⟨ht2, ht2'⟩, -⟩ := zr (π t) t2
  have i9s : ai_in (nI (10 * p + π s)) 90 = true := by rw [fi_in (by omega)]; exact decide_eq_true (by omega)
  have i9t : ai_in (nI (10 * p + π t)) 90 = true := by rw [fi_in (by omega)]; exact decide_eq_true (by omega)
  have i10s : ai_in (nI s) 10 = true := by rw [fi_in (by omega)]; exact decide_eq_true (by omega)
  rw [bq_21_10, i10s, cond_true, cond_true, nI_clamp (n := s) (by omega)]
  cases wc with
  | false => rw [if_pos (show fn_bi false = 0 from rfl), bq_21_11, bq_21_13, fw_22t, fb_s]; rfl
  | true =>
    rw [if_neg (show ¬ fn_bi true = 0 by decide), i9t, cond_true, i9s, cond_true, nI_clamp (n := 10 * p + π t) (by omega), nI_clamp (n := 10 * p + π s) (by omega), ht2, hs2]
    by_cases c : A.2.2.2.2.2.2.1 (π s) ≤ A.2.2.2.2.2.2.1 (π t)
    · rw [if_neg (nI_nlt c (by omega)), bq_21_11, bq_21_13, fw_22t, fb_s, show fd_r4 A true π s t = true from decide_eq_true c]
    · rw [if_pos (nI_lt (by omega) (by omega)), bq_21_12, bq_21_13, fw_22f, fb_s, show fd_r4 A true π s t = false from decide_eq_false c]
theorem fl_21c {d : Nat} {al : Nat × Nat} {kl p s t : Nat} {A : fd_A} {π : Nat → Nat} {wc wd : Bool} {M : Nat → Nat → Int32} (hY : fd_Yc A p π M) (hs : s < A.2.1) (ht : t < A.2.1) {b b' b'' : Bool} {x y : Int32} : ai_run (d + 1) 21 14 [.ref 33, .int (nI p), .int (nI s), .int (fn_bi wc), .int (fn_bi wd), .int (nI (10 * p + π s)), .int (nI t), .int (nI (10 * p + π t)), .int (fn_bi b), .int (fn_bi b'), .int (fn_bi b'')] [.int x, .int y, .int (nI s), .ref 37] (hC al kl M) = ai_run (d + 1) 21 18 [.ref 33, .int (nI p), .int (nI s), .int (fn_bi wc), .int (fn_bi wd), .int (nI (10 * p + π s)), .int (nI t), ai_un, .int (fn_bi b), .int (fn_bi b'), .int (fn_bi b'')] [.int (fd_bi (fd_r5 A wc π s t) t), .int (M 38 s), .int (nI s), .ref 38] (hC al kl (ai_up M 37 s (y ||| x))) := by
  obtain ⟨⟨⟨z1, z2, z3, -, -⟩, zh, zr⟩, y2, y3⟩ := hY
  obtain ⟨s1, s2, s3⟩ := y3 s hs
  obtain ⟨t1, t2, t3⟩ := y3 t ht
  obtain ⟨-, ⟨hs2, hs2'⟩, -⟩ := zr (π s) s2
  obtain ⟨-, ⟨ht2, ht2'⟩, -⟩ := zr (π t) t2
  have i9s : ai_in (nI (10 * p + π s)) 90 = true := by rw [fi_in (by omega)]; exact decide_eq_true (by omega)
  have i9t : ai_in (nI (10 * p + π t)) 90 = true := by rw [fi_in (by omega)]; exact decide_eq_true (by omega)
  have i10s : ai_in (nI s) 10 = true := by rw [fi_in (by omega)]; exact decide_eq_true (by omega)
  rw [bq_21_14, i10s, cond_true, cond_true, nI_clamp (n := s) (by omega)]
  cases wc with
  | false => rw [if_pos (show fn_bi false = 0 from rfl), bq_21_15, bq_21_17, fw_22t, fb_s]; rfl
  | true =>
    rw [if_neg (show ¬ fn_bi true = 0 by decide), i9t, cond_true, i9s, cond_true, nI_clamp (n := 10 * p + π t) (by omega), nI_clamp (n := 10 * p + π s) (by omega), ht2, hs2]
    by_cases c : A.2.2.2.2.2.2.1 (π t) ≤ A.2.2.2.2.2.2.1 (π s)
    · rw [if_neg (nI_nlt c (by omega)), bq_21_15, bq_21_17, fw_22t, fb_s, show fd_r5 A true π s t = true from decide_eq_true c]
    · rw [if_pos (nI_lt (by omega) (by omega)), bq_21_16, bq_21_17, fw_22f, fb_s, show fd_r5 A true π s t = false from decide_eq_false c]
theorem fl_21d {d : Nat} {al : Nat × Nat} {kl s t : Nat} {M : Nat → Nat → Int32} {x1 x3 x4 x5 : Int32} (hs : s < 10) {b b' b'' : Bool} {x y : Int32} : ai_run (d + 1) 21 18 [.ref 33, .int x1, .int (nI s), .int x3, .int x4, .int x5, .int (nI t), ai_un, .int (fn_bi b), .int (fn_bi b'), .int (fn_bi b'')] [.int x, .int y, .int (nI s), .ref 38] (hC al kl M) = ai_run (d + 1) 21 1 [.ref 33, .int x1, .int (nI s), .int x3, .int x4, .int x5, .int (nI (t + 1)), ai_un, ai_un, ai_un, ai_un] [] (hC al kl (ai_up (ai_up M 38 s (y ||| x)) 39 s (M 39 s ||| fd_bi (b && b' && b'') t))) := by
  have i10s : ai_in (nI s) 10 = true := by rw [fi_in (by omega)]; exact decide_eq_true (by omega)
  rw [bq_21_18, i10s, cond_true, cond_true, nI_clamp (n := s) (by omega)]
  cases b with
  | false => rw [if_pos (show fn_bi false = 0 from rfl), bq_21_19, bq_21_20, fw_22f, fb_s, bq_21_21, i10s, cond_true, nI_clamp (n := s) (by omega), nI_1]; rfl
  | true =>
    rw [if_neg (show ¬ fn_bi true = 0 by decide)]
    cases b' with
    | false => rw [if_pos (show fn_bi false = 0 from rfl), bq_21_19, bq_21_20, fw_22f, fb_s, bq_21_21, i10s, cond_true, nI_clamp (n := s) (by omega), nI_1]; rfl
    | true =>
      rw [if_neg (show ¬ fn_bi true = 0 by decide)]
      cases b'' with
      | false => rw [if_pos (show fn_bi false = 0 from rfl), bq_21_19, bq_21_20, fw_22f, fb_s, bq_21_21, i10s, cond_true, nI_clamp (n := s) (by omega), nI_1]; rfl
      | true => rw [if_neg (show ¬ fn_bi true = 0 by decide), bq_21_20, fw_22t, fb_s, bq_21_21, i10s, cond_true, nI_clamp (n := s) (by omega), nI_1]; rfl
/-- the four sets of room s, the first t rooms looked at -/
def fd_J (A : fd_A) (wc wd : Bool) (π : Nat → Nat) (s t : Nat) (x36 x37 x38 x39 : Int32) : Prop := fd_bs x36 (fun q => q < t ∧ fd_r1 A π s q = true) ∧ fd_bs x37 (fun q => q < t ∧ fd_r4 A wc π s q = true) ∧ fd_bs x38 (fun q => q < t ∧ fd_r5 A wc π s q = true) ∧ fd_bs x39 (fun q => q < t ∧ (fd_r1 A π s q && fd_r2 A wc π s q && fd_r3 A wd π s q) = true)
theorem fd_bs.st {x : Int32} {r : Nat → Bool} {t : Nat} (h : fd_bs x (fun q => q < t ∧ r q = true)) (ht : t < 10) : fd_bs (x ||| fd_bi (r t) t) (fun q => q < t + 1 ∧ r q = true) := by
  refine (h.or (b := r t) ht).cg (fun q _ => ⟨?_, ?_⟩)
  · rintro (⟨h1, h2⟩ | ⟨h1, h2⟩)
    · exact ⟨by omega, h2⟩
    · rw [h2]; exact ⟨by omega, h1⟩
  · rintro ⟨h1, h2⟩
    by_cases e : q = t
    · rw [e] at h2; exact Or.inr ⟨h2, e⟩
    · exact Or.inl ⟨by omega, h2⟩
theorem fl_21 {d : Nat} {al : Nat × Nat} {kl p s : Nat} {A : fd_A} {π : Nat → Nat} {wc wd : Bool} (hs : s < A.2.1) : ∀ (m t : Nat) (M : Nat → Nat → Int32) (v7 v8 v9 v10 : Value), t + m = A.2.1 → fd_Yc A p π M → fd_J A wc wd π s t (M 36 s) (M 37 s) (M 38 s) (M 39 s) → ∃ M', ai_run (d + 1) 21 1 [.ref 33, .int (nI p), .int (nI s), .int (fn_bi wc), .int (fn_bi wd), .int (nI (10 * p + π s)), .int (nI t), v7, v8, v9, v10] [] (hC al kl M) = some (.inl none, hC al kl M') ∧ (∀ a, a < 36 ∨ 39 < a → M' a = M a) ∧ (∀ a j, j ≠ s → M' a j = M a j) ∧ fd_J A wc wd π s A.2.1 (M' 36 s) (M' 37 s) (M' 38 s) (M' 39 s)
  | 0, t, M, v7, v8, v9, v10, ht, hY, hJ => by
    have e : t = A.2.1 := by omega
    subst e
    refine ⟨M, ?_, fun _ _ => rfl, fun _ _ _ => rfl, hJ⟩
    rw [bq_21_1, hY.2.1, if_pos Int32.le_rfl, bq_21_22]
  | m + 1, t, M, v7, v8, v9, v10, ht, hY, hJ => by
    have hR := hY.1.1.2.1
    have htR : t < A.2.1 := by omega
    obtain ⟨j1, j2, j3, j4⟩ := hJ
    have e1 := fl_21a (d := d) (al := al) (kl := kl) (wc := wc) (wd := wd) (v7 := v7) (v8 := v8) (v9 := v9) (v10 := v10) hY hs htR
    have e2 := fl_21b (d := d) (al := al) (kl := kl) (wc := wc) (wd := wd) (b := fd_r1 A π s t) (b' := fd_r2 A wc π s t) (b'' := fd_r3 A wd π s t) (x := fd_bi (fd_r1 A π s t) t) (y := M 36 s) hY hs htR
    have e3 := fl_21c (d := d) (al := al) (kl := kl) (wc := wc) (wd := wd) (b := fd_r1 A π s t) (b' := fd_r2 A wc π s t) (b'' := fd_r3 A wd π s t) (x := fd_bi (fd_r4 A wc π s t) t) (y := M 37 s) (M := ai_up M 36 s (M 36 s ||| fd_bi (fd_r1 A π s t) t)) hY hs htR
    have e4 := fl_21d (d := d) (al := al) (kl := kl) (s := s) (t := t) (x1 := nI p) (x3 := fn_bi wc) (x4 := fn_bi wd) (x5 := nI (10 * p + π s)) (b := fd_r1 A π s t) (b' := fd_r2 A wc π s t) (b'' := fd_r3 A wd π s t) (x := fd_bi (fd_r5 A wc π s t) t) (y := M 38 s) (M := ai_up (ai_up M 36 s (M 36 s ||| fd_bi (fd_r1 A π s t) t)) 37 s (M 37 s ||| fd_bi (fd_r4 A wc π s t) t)) (by omega)
    obtain ⟨M', p1, p2, p3, p4⟩ := fl_21 (d := d) (al := al) (kl := kl) (wc := wc) (wd := wd) (p := p) hs m (t + 1) (ai_up (ai_up (ai_up (ai_up M 36 s (M 36 s ||| fd_bi (fd_r1 A π s t) t)) 37 s (M 37 s ||| fd_bi (fd_r4 A wc π s t) t)) 38 s (M 38 s ||| fd_bi (fd_r5 A wc π s t) t)) 39 s (M 39 s ||| fd_bi (fd_r1 A π s t && fd_r2 A wc π s t && fd_r3 A wd π s t) t)) ai_un ai_un ai_un ai_un (by omega) hY ⟨by
        show fd_bs (ai_up M 36 s _ 36 s) _
        rw [fu_at]
        exact fd_bs.st (r := fun q => fd_r1 A π s q) j1 (by omega), by
        show fd_bs (ai_up (ai_up M 36 s _) 37 s _ 37 s) _
        rw [fu_at]
        exact fd_bs.st (r := fun q => fd_r4 A wc π s q) j2 (by omega), by
        show fd_bs (ai_up (ai_up (ai_up M 36 s _) 37 s _) 38 s _ 38 s) _
        rw [fu_at]
        exact fd_bs.st (r := fun q => fd_r5 A wc π s q) j3 (by omega), by
        rw [fu_at]
        exact fd_bs.st (r := fun q => fd_r1 A π s q && fd_r2 A wc π s q && fd_r3 A wd π s q) j4 (by omega)⟩
    refine ⟨M', ?_, fun a ha => by rw [p2 a ha, fu_row (by omega), fu_row (by omega), fu_row (by omega), fu_row (by omega)], fun a j hj => ?_, p4⟩
    · rw [e1, e2]
      refine Eq.trans e3 ?_
      exact Eq.trans e4 p1
    · rw [p3 a j hj]
      have up : ∀ (M : Nat → Nat → Int32) (k : Nat) (v : Int32), ai_up M k s v a j = M a j := fun M k v => by
        by_cases e : a = k
        · subst e; exact fu_ne hj
        · rw [fu_row e]
      rw [up, up, up, up]
theorem fw_21 {d : Nat} {al : Nat × Nat} {kl p s : Nat} {A : fd_A} {π : Nat → Nat} {wc wd : Bool} {M : Nat → Nat → Int32} (hs : s < A.2.1) (hY : fd_Yc A p π M) {v5 v6 v7 v8 v9 v10 : Value} : ∃ M', ai_run (d + 1) 21 0 [.ref 33, .int (nI p), .int (nI s), .int (fn_bi wc), .int (fn_bi wd), v5, v6, v7, v8, v9, v10] [] (hC al kl M) = some (.inl none, hC al kl M') ∧ (∀ a, a < 36 ∨ 39 < a → M' a = M a) ∧ (∀ a j, j ≠ s → M' a j = M a j) ∧ fd_J A wc wd π s A.2.1 (M' 36 s) (M' 37 s) (M' 38 s) (M' 39 s) := by
  have hR := hY.1.1.2.1
  obtain ⟨s1, s2, s3⟩ := hY.2.2 s hs
  have no : ∀ r : Nat → Bool, fd_bs 0 (fun q => q < 0 ∧ r q = true) := fun r => fd_bs_z (fun t _ z => absurd z.1 (Nat.not_lt_zero _))
  obtain ⟨M', p1, p2, p3, p4⟩ := fl_21 (d := d) (al := al) (kl := kl) (wc := wc) (wd := wd) (p := p) (π := π) hs A.2.1 0 (ai_up (ai_up (ai_up (ai_up M 36 s 0) 37 s 0) 38 s 0) 39 s 0) ai_un ai_un ai_un ai_un (by omega) hY ⟨by
    show fd_bs (ai_up M 36 s 0 36 s) _
    rw [fu_at]; exact no _, by
    show fd_bs (ai_up (ai_up M 36 s 0) 37 s 0 37 s) _
    rw [fu_at]; exact no _, by
    show fd_bs (ai_up (ai_up (ai_up M 36 s 0) 37 s 0) 38 s 0 38 s) _
    rw [fu_at]; exact no _, by
    rw [fu_at]; exact no (fun q => fd_r1 A π s q && fd_r2 A wc π s q && fd_r3 A wd π s q)⟩
  refine ⟨M', ?_, fun a ha => by rw [p2 a ha, fu_row (by omega), fu_row (by omega), fu_row (by omega), fu_row (by omega)], fun a j hj => ?_, p4⟩
  · rw [bq_21_0, fi_in (by omega), decide_eq_true (by omega), cond_true, cond_true, cond_true, cond_true, cond_true, nI_clamp (by omega), s1, fi_r.1]
    exact p1
  · rw [p3 a j hj]
    have up : ∀ (M : Nat → Nat → Int32) (k : Nat) (v : Int32), ai_up M k s v a j = M a j := fun M k v => by
      by_cases e : a = k
      · subst e; exact fu_ne hj
      · rw [fu_row e]
    rw [up, up, up, up]
