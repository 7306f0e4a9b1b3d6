/-! routes: the reference's table -/
theorem fb_t : ∀ s, s < 512 → ∀ q, q < 9 → decide (((nI s >>> (nI q &&& 31)) &&& (1 : Int32)) = 1) = s.testBit q := by decide +kernel
theorem fb_o : ∀ s, s < 512 → ∀ q, q < 9 → (nI s ||| ((1 : Int32) <<< (nI q &&& 31))) = nI (s ||| 2 ^ q) := by decide +kernel
theorem fb_1 : ∀ q, q < 9 → ((1 : Int32) <<< (nI q &&& 31)) = nI (2 ^ q) := by decide +kernel
theorem fb_or {np s q : Nat} (hs : s < 2 ^ np) (hq : q < np) : s ||| 2 ^ q < 2 ^ np := Nat.or_lt_two_pow hs (Nat.pow_lt_pow_right (by omega) hq)
theorem fb_512 {np s : Nat} (hn : np ≤ 9) (hs : s < 2 ^ np) : s < 512 := Nat.lt_of_lt_of_le hs (Nat.pow_le_pow_right (n := 2) (by omega) hn)
def fr_Z (np t : Nat) (A : fr_A) (m8 m5 : Int32) (s5 s6 s14 s15 s16 : Nat → Int32) : Prop := (np ≤ 9 ∧ t < 200 ∧ m8 = nI t ∧ m5 = nI np ∧ A.1 = np) ∧ (∀ p, p < 9 → ∃ a b, a ≤ 1000000 ∧ b ≤ 1000000 ∧ s5 p = nI a ∧ s6 p = nI b ∧ A.2.2.1 p = min a b) ∧ (∀ k, t + k < 200 → ∀ p, A.2.2.2.1 p k = decide (s16 (t + k) = -1 ∨ s16 (t + k) = nI p)) ∧ (∀ k, t + k < 200 → ∀ p q, p < 9 → q < 9 → ∃ w y, w < 49 ∧ y < 5 ∧ s14 (9 * p + q) = nI w ∧ s15 (t + k) = nI y ∧ A.2.2.2.2 p q k = if w * (4 + y) / 4 ≤ 16 then w * (4 + y) / 4 else 0) ∧ (∀ k, A.2.1 k ≤ 1000000) ∧ ∀ p q k, A.2.2.2.2 p q k ≤ 16
abbrev fr_Zm (np t : Nat) (A : fr_A) (MM : Nat → Nat → Int32) : Prop := fr_Z np t A (MM 0 8) (MM 0 5) (MM 5) (MM 6) (MM 14) (MM 15) (MM 16)
theorem fr_1 {d : Nat} {al : Nat × Nat} {N : Nat → Nat → Int64} {np t k p q : Nat} {A : fr_A} {MM : Nat → Nat → Int32} (hz : fr_Zm np t A MM) (hk : t + k < 200) (hp : p < 9) (hq : q < 9) {v4 : Value} : ai_run d 191 0 [.ref 0, .int (nI p), .int (nI q), .int (nI (t + k)), v4] [] (hM al MM N) = some (.inl (some (.int (if A.2.2.2.2 p q k = 0 then -1 else nI (A.2.2.2.2 p q k)))), hM al MM N) := by
  obtain ⟨w, y, w1, y1, w3, y2, e⟩ := hz.2.2.2.1 k hk p q hp hq
  have hb : w * (4 + y) ≤ 48 * 8 := Nat.mul_le_mul (by omega) (by omega)
  rw [bq_191_0, fi_w.2, fi_in (by omega), decide_eq_true (by omega), cond_true, fi_in (by omega), decide_eq_true hk, cond_true, nI_clamp (by omega), nI_clamp (by omega), w3, y2, fi_hw w w1 y y1, e]
  by_cases c0 : w * (4 + y) / 4 = 0
  · rw [c0, if_pos (show nI 0 = 0 from rfl), if_pos (show 0 ≤ 16 by omega), if_pos rfl, bq_191_1, bq_191_3]
  · rw [if_neg (nI_ne0 (by omega) (by omega))]
    by_cases c : w * (4 + y) / 4 ≤ 16
    · rw [if_pos c, if_pos (fj_ge (c := 16) (n := 16) rfl c (by omega)), if_neg c0, bq_191_2, bq_191_3]
    · rw [if_neg c, if_neg (fj_nge (c := 16) (n := 16) rfl (by omega) (by omega)), if_pos rfl, bq_191_1, bq_191_3]
theorem fw_192 {d : Nat} {al : Nat × Nat} {N : Nat → Nat → Int64} {np t k p : Nat} {A : fr_A} {MM : Nat → Nat → Int32} (hz : fr_Zm np t A MM) (hk : t + k < 200) : ai_run d 192 0 [.ref 0, .int (nI p), .int (nI (t + k))] [] (hM al MM N) = some (.inl (some (.int (fn_bi (A.2.2.2.1 p k)))), hM al MM N) := by
  rw [bq_192_0, fi_in (by omega), decide_eq_true hk, cond_true, cond_true, nI_clamp (by omega), hz.2.2.1 k hk p]
  by_cases c1 : MM 16 (t + k) = -1
  · rw [if_pos c1, bq_192_1, bq_192_3, if_pos (Or.inr rfl), decide_eq_true (Or.inl c1)]
    rfl
  · rw [if_neg c1]
    by_cases c2 : MM 16 (t + k) = nI p
    · rw [if_pos c2, bq_192_1, bq_192_3, if_pos (Or.inr rfl), decide_eq_true (Or.inr c2)]
      rfl
    · rw [if_neg c2, bq_192_2, bq_192_3, if_pos (Or.inl rfl), decide_eq_false (fun z => z.elim c1 c2)]
      rfl
theorem fw_194 {d : Nat} {al : Nat × Nat} {N : Nat → Nat → Int64} {np t m k p q s : Nat} {A : fr_A} {MM : Nat → Nat → Int32} (hz : fr_Zm np t A MM) (hk : t + k < 200) (hk2 : k < 20) (hp : p < 9) (hq : q < np) (hs : s < 2 ^ np) (hT : s.testBit q = false → MM 38 ((9 * (k + 1) + q) * 512 + (s ||| 2 ^ q)) = nI (fr_R A m (k + 1) q (s ||| 2 ^ q) (A.2.2.1 q))) {v5 v6 : Value} : ai_run (d + 1) 194 0 [.ref 0, .int (nI k), .int (nI p), .int (nI q), .int (nI s), v5, v6] [] (hM al MM N) = some (.inl (some (.int (nI (fr_W A m k p q s)))), hM al MM N) := by
  obtain ⟨⟨z1, z2, z3, z4, z5⟩, -⟩ := id hz
  have h512 := fb_512 z1 hs
  have ht := fb_t s h512 q (by omega)
  have ho := fb_512 z1 (fb_or hs hq)
  rw [bq_194_0]
  unfold fr_W
  cases hb : s.testBit q with
  | true =>
    rw [hb, decide_eq_true_iff] at ht
    rw [if_pos ht, bq_194_2, if_pos rfl, if_pos rfl]
    rfl
  | false =>
    rw [hb, decide_eq_false_iff_not] at ht
    rw [if_neg ht, bq_194_1, show MM 0 8 = nI t from z3, nI_add, fr_1 hz hk hp (by omega), fb_s, bq_194_2, if_neg (show ¬ false = true by decide)]
    by_cases h0 : A.2.2.2.2 p q k = 0
    · rw [if_pos h0, if_pos h0, if_pos rfl]
      rfl
    · have h16 := hz.2.2.2.2.2 p q k
      have hlt := (fr_R_sm hz.2.2.2.2.2 m (k + 1) q (s ||| 2 ^ q) (A.2.2.1 q)).lt (by omega)
      rw [if_neg h0, if_neg h0, if_neg (fi_m1 (by omega)), bq_194_3, fb_o s h512 q (by omega), nI_1, show (9 : Int32) = nI 9 from rfl, show (512 : Int32) = nI 512 from rfl, pk_mul, nI_add, pk_mul, nI_add, fi_in (by omega), decide_eq_true (by omega), cond_true, nI_clamp (by omega), hT hb]
      unfold fr_ad
      by_cases e : fr_R A m (k + 1) q (s ||| 2 ^ q) (A.2.2.1 q) = fr_F
      · rw [e, if_pos rfl, if_pos (show nI fr_F = 1000000000 from rfl), bq_194_5]
        rfl
      · have hF : ¬ nI (fr_R A m (k + 1) q (s ||| 2 ^ q) (A.2.2.1 q)) = 1000000000 := fj_ne (c := 1000000000) (n := 1000000000) rfl e (by omega) (by omega)
        rw [if_neg e, if_neg hF, bq_194_4, bq_194_5, nI_add]
/-- the table is right for the set s -/
def fr_T (A : fr_A) (D : Nat) (w : Nat → Int32) (s : Nat) : Prop := ∀ p, p < A.1 → s.testBit p = true → ∀ k, k < D → w ((9 * k + p) * 512 + s) = nI (fr_R A (D - 1 - k) k p s (A.2.2.1 p))
/-- and for all that hold s and one more -/
def fr_U (A : fr_A) (D : Nat) (w : Nat → Int32) (s : Nat) : Prop := ∀ q, q < A.1 → s.testBit q = false → fr_T A D w (s ||| 2 ^ q)
theorem fr_U.at {A : fr_A} {D s q k : Nat} {w : Nat → Int32} (h : fr_U A D w s) (hq : q < A.1) (hk : k + 1 < D) (hb : s.testBit q = false) : w ((9 * (k + 1) + q) * 512 + (s ||| 2 ^ q)) = nI (fr_R A (D - 2 - k) (k + 1) q (s ||| 2 ^ q) (A.2.2.1 q)) := by
  have := h q hq hb q hq (by rw [Nat.testBit_or, Nat.testBit_two_pow, decide_eq_true rfl, Bool.or_true]) (k + 1) hk
  rw [show D - 1 - (k + 1) = D - 2 - k by omega] at this
  exact this
theorem fl_195a {d : Nat} {al : Nat × Nat} {N : Nat → Nat → Int64} {np t D k p s : Nat} {A : fr_A} {MM : Nat → Nat → Int32} (hz : fr_Zm np t A MM) (hD : t + D ≤ 200) (hD2 : D ≤ 21) (hk : k + 1 < D) (hp : p < 9) (hs : s < 2 ^ np) (hU : fr_U A D (MM 38) s) : ∀ (m q : Nat) (e : Nat → Int32) (v6 v7 : Value), q + m = np → ai_run (d + 2) 195 4 [.ref 0, .int (nI p), .int (nI s), .int (nI D), .int (nI k), .int (nI q), v6, v7] [] (hM al (fn_rw MM 41 (upd e k (nI (fr_mn (fun q => fr_W A (D - 2 - k) k p q s) q)))) N) = ai_run (d + 2) 195 7 [.ref 0, .int (nI p), .int (nI s), .int (nI D), .int (nI k), .int (nI np), ai_un, ai_un] [] (hM al (fn_rw MM 41 (upd e k (nI (fr_mn (fun q => fr_W A (D - 2 - k) k p q s) np)))) N)
  | 0, q, e, v6, v7, h => by
    obtain ⟨⟨z1, z2, z3, z4, z5⟩, -⟩ := id hz
    have : q = np := by omega
    subst this
    rw [bq_195_4, show (fn_rw MM 41 (upd e k (nI (fr_mn (fun q => fr_W A (D - 2 - k) k p q s) q)))) 0 5 = nI q from z4, if_pos Int32.le_rfl]
  | m + 1, q, e, v6, v7, h => by
    obtain ⟨⟨z1, z2, z3, z4, z5⟩, -⟩ := id hz
    have hWs : fr_sm A.1 s (fr_W A (D - 2 - k) k p q s) := fr_W_sm hz.2.2.2.2.2 (by omega)
    have hlt := hWs.lt (by omega)
    have hmn := fr_mn_le (fun q => fr_W A (D - 2 - k) k p q s) q
    have hF : fr_F < 2 ^ 31 := by unfold fr_F; omega
    have e41 : (fn_rw MM 41 (upd e k (nI (fr_mn (fun q => fr_W A (D - 2 - k) k p q s) q)))) 41 k = nI (fr_mn (fun q => fr_W A (D - 2 - k) k p q s) q) := pk_us
    have upp : ∀ a b : Int32, upd (upd e k a) k b = upd e k b := fun a b => by
      funext j
      by_cases hj : j = k
      · subst hj; rw [pk_us, pk_us]
      · rw [pk_un hj, pk_un hj, pk_un hj]
    rw [bq_195_4, show (fn_rw MM 41 (upd e k (nI (fr_mn (fun q => fr_W A (D - 2 - k) k p q s) q)))) 0 5 = nI np from z4, if_neg (nI_ge (by omega) (by omega)), show nI D - 1 = nI (D - 1) from fi_sub (b := 1) (by omega), if_neg (nI_ge (by omega) (by omega)), fi_in (by omega), decide_eq_true (by omega), cond_true, nI_clamp (by omega), e41, fw_194 (MM := fn_rw MM 41 (upd e k (nI (fr_mn (fun q => fr_W A (D - 2 - k) k p q s) q)))) (A := A) (t := t) (m := D - 2 - k) (np := np) hz (by omega) (by omega) hp (by omega) hs (fun hb => hU.at (by omega) hk hb), fb_s, bq_195_5, fw_212 (by omega) (by omega), fb_s, bq_195_6, fi_in (by omega), decide_eq_true (by omega), cond_true, nI_clamp (by omega), fn_rw_up, upp, nI_1]
    exact fl_195a hz hD hD2 hk hp hs hU m (q + 1) e _ _ (by omega)
theorem fl_195b {d : Nat} {al : Nat × Nat} {N : Nat → Nat → Int64} {np t D p s : Nat} {A : fr_A} {MM : Nat → Nat → Int32} (hz : fr_Zm np t A MM) (hD : t + D ≤ 200) (hD2 : D ≤ 21) (hp : p < 9) (hs : s < 2 ^ np) (hU : fr_U A D (MM 38) s) : ∀ (m k : Nat) (e : Nat → Int32) (v5 v6 v7 : Value), k + m = D → ∃ e' : Nat → Int32, ai_run (d + 2) 195 1 [.ref 0, .int (nI p), .int (nI s), .int (nI D), .int (nI k), v5, v6, v7] [] (hM al (fn_rw MM 41 e) N) = ai_run (d + 2) 195 8 [.ref 0, .int (nI p), .int (nI s), .int (nI D), .int (nI D), ai_un, ai_un, ai_un] [] (hM al (fn_rw MM 41 e') N) ∧ (∀ j, k ≤ j → j < D → e' j = nI (fr_E A (D - 1 - j) j p s)) ∧ ∀ j, j < k → e' j = e j
  | 0, k, e, v5, v6, v7, h => by
    have : k = D := by omega
    subst this
    exact ⟨e, by rw [bq_195_1, if_pos Int32.le_rfl], fun j h1 h2 => by omega, fun j _ => rfl⟩
  | m + 1, k, e, v5, v6, v7, h => by
    obtain ⟨⟨z1, z2, z3, z4, z5⟩, -⟩ := id hz
    have key : ∃ y : Nat, y = fr_E A (D - 1 - k) k p s ∧ ai_run (d + 2) 195 1 [.ref 0, .int (nI p), .int (nI s), .int (nI D), .int (nI k), v5, v6, v7] [] (hM al (fn_rw MM 41 e) N) = ai_run (d + 2) 195 1 [.ref 0, .int (nI p), .int (nI s), .int (nI D), .int (nI (k + 1)), ai_un, ai_un, ai_un] [] (hM al (fn_rw MM 41 (upd e k (nI y))) N) := by
      rw [bq_195_1, if_neg (nI_ge (by omega) (by omega)), show nI D - 1 = nI (D - 1) from fi_sub (b := 1) (by omega)]
      by_cases hk : k = D - 1
      · refine ⟨0, by rw [show D - 1 - k = 0 by omega]; rfl, ?_⟩
        rw [if_pos (by rw [hk]), bq_195_3, fi_in (by omega), decide_eq_true (by omega), cond_true, nI_clamp (by omega), fn_rw_up, bq_195_4]
        have e7 : ∀ (q v w : Value), ai_run (d + 2) 195 7 [.ref 0, .int (nI p), .int (nI s), .int (nI D), .int (nI k), q, v, w] [] (hM al (fn_rw MM 41 (upd e k 0)) N) = ai_run (d + 2) 195 1 [.ref 0, .int (nI p), .int (nI s), .int (nI D), .int (nI (k + 1)), ai_un, ai_un, ai_un] [] (hM al (fn_rw MM 41 (upd e k (nI 0))) N) := fun q v w => by
          rw [bq_195_7, nI_1]
          rfl
        rw [show nI D - 1 = nI (D - 1) from fi_sub (b := 1) (by omega), if_pos (nI_le (a := D - 1) (b := k) (by omega) (by omega)), e7, ite_self]
      · refine ⟨fr_mn (fun q => fr_W A (D - 2 - k) k p q s) np, by rw [show D - 1 - k = D - 2 - k + 1 by omega, ← z5]; rfl, ?_⟩
        have hne : ¬ nI k = nI (D - 1) := fun z => hk ((nI_eq (by omega) (by omega)).mp z)
        have l := fl_195a (d := d) (al := al) (N := N) hz hD hD2 (k := k) (by omega) hp hs hU np 0 e ai_un ai_un (by omega)
        rw [if_neg hne, bq_195_2, bq_195_3, fi_in (by omega), decide_eq_true (by omega), cond_true, nI_clamp (by omega), fn_rw_up]
        refine (show _ = _ from l).trans ?_
        rw [bq_195_7, nI_1]
    obtain ⟨y, y1, y2⟩ := key
    obtain ⟨e', p1, p2, p3⟩ := fl_195b (d := d) (al := al) (N := N) hz hD hD2 hp hs hU m (k + 1) (upd e k (nI y)) ai_un ai_un ai_un (by omega)
    refine ⟨e', y2.trans p1, fun j h1 h2 => ?_, fun j hj => ?_⟩
    · by_cases hj : j = k
      · subst hj; rw [p3 j (by omega), pk_us, y1]
      · exact p2 j (by omega) h2
    · rw [p3 j (by omega), pk_un (by omega)]
/-- the rest of a row, if a day is left -/
def fr_Q (A : fr_A) : Nat → Nat → Nat → Nat → Nat → Nat
  | 0, _, _, _, _ => fr_F
  | m + 1, k, p, s, l => fr_R A m k p s l
theorem fr_G_q {A : fr_A} {k p s l : Nat} : ∀ m : Nat, fr_G A m k p s l = min (fr_E A m k p s) (fr_Q A m (k + 1) p s l)
  | 0 => by show 0 = min 0 _; rw [Nat.zero_min]
  | m + 1 => by rw [fr_G_s, Nat.min_comm]; rfl
theorem fl_195c {d : Nat} {al : Nat × Nat} {N : Nat → Nat → Int64} {np t D p s k0 : Nat} {A : fr_A} {MM : Nat → Nat → Int32} (hz : fr_Zm np t A MM) (hD : t + D ≤ 200) (hD2 : D ≤ 21) (hp : p < 9) (hN : ∀ k, k < D → MM 39 k = nI (A.2.1 k)) (hE : ∀ k, k < D → MM 41 k = nI (fr_E A (D - 1 - k) k p s)) : ∀ (m k b a : Nat), k + m = D → b ≤ fr_F → a ≤ A.2.2.1 p → ∃ (x6 x7 : Int32), ai_run (d + 2) 195 10 [.ref 0, .int (nI p), .int (nI s), .int (nI D), .int (nI k0), .int (nI b), .int (nI a), .int (nI k)] [] (hM al MM N) = ai_run (d + 2) 195 14 [.ref 0, .int (nI p), .int (nI s), .int (nI D), .int (nI k0), .int (nI (min b (fr_Q A m k p s (A.2.2.1 p - a)))), .int x6, .int x7] [] (hM al MM N)
  | 0, k, b, a, h, hb, ha => by
    have : k = D := by omega
    subst this
    refine ⟨nI a, nI k, ?_⟩
    rw [bq_195_10, if_pos Int32.le_rfl, show fr_Q A 0 k p s (A.2.2.1 p - a) = fr_F from rfl, Nat.min_eq_left hb]
  | m + 1, k, b, a, h, hb, ha => by
    obtain ⟨⟨z1, z2, z3, z4, z5⟩, zS, -, -, zf, zh⟩ := id hz
    obtain ⟨x, y, x1, y1, x2, y2, xy⟩ := zS p hp
    have hF : fr_F < 2 ^ 31 := by unfold fr_F; omega
    have hfk := zf k
    have hEs := (fr_E_sm zh (D - 1 - k) k p s).lt (by omega)
    rw [bq_195_10, if_neg (nI_ge (by omega) (by omega)), show MM 0 8 = nI t from z3, nI_add, fw_192 hz (by omega), fb_s, bq_195_11, nI_clamp (n := k) (by omega), nI_clamp (n := p) (by omega), hN k (by omega), nI_add, x2, y2]
    show ∃ (x6 x7 : Int32), _ = ai_run (d + 2) 195 14 [.ref 0, .int (nI p), .int (nI s), .int (nI D), .int (nI k0), .int (nI (min b (if A.2.2.2.1 p k = true ∧ A.2.1 k ≤ A.2.2.1 p - a then fr_G A m k p s (A.2.2.1 p - a - A.2.1 k) else fr_F))), .int x6, .int x7] [] (hM al MM N)
    cases ho : A.2.2.2.1 p k with
    | false =>
      refine ⟨nI a, nI k, ?_⟩
      rw [if_pos (show fn_bi false = 0 from rfl), if_neg (fun z => absurd z.1 (by decide)), Nat.min_eq_left hb]
    | true =>
      rw [if_neg (show ¬ fn_bi true = 0 by decide), fi_in (by omega), decide_eq_true (by omega), cond_true, fi_in (by omega), decide_eq_true hp, cond_true, cond_true]
      by_cases c1 : x < a + A.2.1 k
      · refine ⟨nI (a + A.2.1 k), nI k, ?_⟩
        rw [if_pos (nI_lt c1 (by omega)), if_neg (fun z => by have := z.2; omega), Nat.min_eq_left hb]
      · rw [if_neg (nI_nlt (by omega) (by omega))]
        by_cases c2 : a + A.2.1 k ≤ y
        · obtain ⟨x6, x7, l⟩ := fl_195c (d := d) (al := al) (N := N) (k0 := k0) hz hD hD2 hp hN hE m (k + 1) (min b (fr_E A (D - 1 - k) k p s)) (a + A.2.1 k) (by omega) (Nat.le_trans (Nat.min_le_left _ _) hb) (by omega)
          refine ⟨x6, x7, ?_⟩
          rw [if_pos (nI_le c2 (by omega)), bq_195_12, fi_in (by omega), decide_eq_true (by omega), cond_true, nI_clamp (by omega), hE k (by omega), fw_212 (by omega) (by omega), fb_s, bq_195_13, nI_1, l, if_pos ⟨rfl, by omega⟩, fr_G_q, Nat.min_assoc, show D - 1 - k = m by omega, Nat.sub_sub]
        · refine ⟨nI (a + A.2.1 k), nI k, ?_⟩
          rw [if_neg (nI_ge (by omega) (by omega)), if_neg (fun z => by have := z.2; omega), Nat.min_eq_left hb]
theorem fl_195d {d : Nat} {al : Nat × Nat} {N : Nat → Nat → Int64} {np t D p s : Nat} {A : fr_A} {MM : Nat → Nat → Int32} (hz : fr_Zm np t A MM) (hD : t + D ≤ 200) (hD2 : D ≤ 21) (hp : p < 9) (hs : s < 512) (hN : ∀ k, k < D → MM 39 k = nI (A.2.1 k)) (hE : ∀ k, k < D → MM 41 k = nI (fr_E A (D - 1 - k) k p s)) : ∀ (m k : Nat) (w : Nat → Int32) (v5 v6 v7 : Value), k + m = D → ∃ w' : Nat → Int32, ai_run (d + 2) 195 9 [.ref 0, .int (nI p), .int (nI s), .int (nI D), .int (nI k), v5, v6, v7] [] (hM al (fn_rw MM 38 w) N) = some (.inl none, hM al (fn_rw MM 38 w') N) ∧ (∀ j, k ≤ j → j < D → w' ((9 * j + p) * 512 + s) = nI (fr_R A (D - 1 - j) j p s (A.2.2.1 p))) ∧ ∀ j, (∀ i, k ≤ i → j ≠ (9 * i + p) * 512 + s) → w' j = w j
  | 0, k, w, v5, v6, v7, h => by
    have : k = D := by omega
    subst this
    exact ⟨w, by rw [bq_195_9, if_pos Int32.le_rfl, bq_195_15], fun j h1 h2 => by omega, fun j _ => rfl⟩
  | m + 1, k, w, v5, v6, v7, h => by
    obtain ⟨x6, x7, l⟩ := fl_195c (d := d) (al := al) (N := N) (MM := fn_rw MM 38 w) (k0 := k) hz hD hD2 hp hN hE (m + 1) k fr_F 0 h (Nat.le_refl _) (Nat.zero_le _)
    have hRs := (fr_R_sm hz.2.2.2.2.2 m k p s (A.2.2.1 p)).lt (by have := hz.1.1; have := hz.1.2.2.2.2; omega)
    rw [show fr_Q A (m + 1) k p s (A.2.2.1 p - 0) = fr_R A m k p s (A.2.2.1 p) from rfl, Nat.min_eq_right hRs.2] at l
    obtain ⟨w', p1, p2, p3⟩ := fl_195d (d := d) (al := al) (N := N) hz hD hD2 hp hs hN hE m (k + 1) (upd w ((9 * k + p) * 512 + s) (nI (fr_R A m k p s (A.2.2.1 p)))) (.int (nI (fr_R A m k p s (A.2.2.1 p)))) ai_un ai_un (by omega)
    refine ⟨w', ?_, fun j h1 h2 => ?_, fun j hj => ?_⟩
    · rw [bq_195_9, if_neg (nI_ge (by omega) (by omega))]
      refine (show _ = _ from l).trans ?_
      rw [bq_195_14, show (9 : Int32) = nI 9 from rfl, show (512 : Int32) = nI 512 from rfl, pk_mul, nI_add, pk_mul, nI_add, fi_in (by omega), decide_eq_true (by omega), cond_true, nI_clamp (by omega), fn_rw_up, nI_1, p1]
    · by_cases hj : j = k
      · subst hj
        rw [p3 _ (fun i hi => by omega), pk_us, show D - 1 - j = m by omega]
      · exact p2 j (by omega) h2
    · rw [p3 j (fun i hi => hj i (by omega)), pk_un (hj k (Nat.le_refl _))]
theorem fw_195 {d : Nat} {al : Nat × Nat} {N : Nat → Nat → Int64} {np t D p s : Nat} {A : fr_A} {MM : Nat → Nat → Int32} (hz : fr_Zm np t A MM) (hD : t + D ≤ 200) (hD2 : D ≤ 21) (hp : p < 9) (hs : s < 2 ^ np) (hN : ∀ k, k < D → MM 39 k = nI (A.2.1 k)) (w e : Nat → Int32) (hU : fr_U A D w s) {v4 v5 v6 v7 : Value} : ∃ w' e' : Nat → Int32, ai_run (d + 2) 195 0 [.ref 0, .int (nI p), .int (nI s), .int (nI D), v4, v5, v6, v7] [] (hM al (fn_rw (fn_rw MM 38 w) 41 e) N) = some (.inl none, hM al (fn_rw (fn_rw MM 38 w') 41 e') N) ∧ (∀ j, j < D → w' ((9 * j + p) * 512 + s) = nI (fr_R A (D - 1 - j) j p s (A.2.2.1 p))) ∧ ∀ j, (∀ i, j ≠ (9 * i + p) * 512 + s) → w' j = w j := by
  have h512 := fb_512 hz.1.1 hs
  obtain ⟨e', a1, a2, a3⟩ := fl_195b (d := d) (al := al) (N := N) (MM := fn_rw MM 38 w) hz hD hD2 hp hs hU D 0 e ai_un ai_un ai_un (by omega)
  have sw : ∀ w0 : Nat → Int32, fn_rw (fn_rw MM 41 e') 38 w0 = fn_rw (fn_rw MM 38 w0) 41 e' := fun w0 => by
    funext a
    unfold fn_rw
    by_cases h1 : a = 38
    · subst h1; rfl
    · by_cases h2 : a = 41
      · subst h2; rfl
      · rw [if_neg h1, if_neg h2, if_neg h2, if_neg h1]
  obtain ⟨w', b1, b2, b3⟩ := fl_195d (d := d) (al := al) (N := N) (MM := fn_rw MM 41 e') hz hD hD2 hp h512 hN (fun k hk => a2 k (Nat.zero_le _) hk) D 0 w ai_un ai_un ai_un (by omega)
  rw [sw, sw] at b1
  refine ⟨w', e', ?_, fun j hj => b2 j (Nat.zero_le _) hj, fun j hj => b3 j (fun i _ => hj i)⟩
  rw [bq_195_0]
  refine (show _ = _ from a1).trans ?_
  rw [bq_195_8]
  exact b1
