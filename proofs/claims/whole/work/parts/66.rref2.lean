/-! routes: the reference's loops over the sets, what goes on, and the way told -/
def fr_of (MM : Nat → Nat → Int32) (np t : Nat) : fr_A := (np, fun k => fn_need MM (t + k), fn_sp MM, fun p k => decide (MM 16 (t + k) = -1 ∨ MM 16 (t + k) = nI p), fun p q k => fn_hw MM p q (t + k))
theorem fr_of_Z {n np t : Nat} {M MM : Nat → Nat → Int32} (h : fn_I n np t M MM) : fr_Zm np t (fr_of MM np t) MM := by
  obtain ⟨e1, e2, e3⟩ := h.land.1
  obtain ⟨n1, n2, n3, n4, n5, n6⟩ := h.now
  refine ⟨⟨e1, n1, n3, e3, rfl⟩, fun p hp => ?_, fun k hk p => rfl, fun k hk p q hp hq => ?_, fun k => fn_need_le MM (t + k), fun p q k => fn_hw_le MM p q (t + k)⟩
  · obtain ⟨a, b, a1, b1, -, a2, -, b2⟩ := h.st hp
    refine ⟨a, b, a1, b1, a2, b2, ?_⟩
    show fn_sp MM p = _
    unfold fn_sp
    rw [a2, b2, nI_clamp (by omega), nI_clamp (by omega)]
  · obtain ⟨w, y, w1, y1, w2, w3, y2⟩ := fw_w h (p := p) (q := q) hp hq hk
    refine ⟨w, y, w1, y1, w3, y2, ?_⟩
    show fn_hw MM p q (t + k) = _
    unfold fn_hw
    rw [w3, y2, nI_clamp (by omega), nI_clamp (by omega)]
theorem fl_196a {d : Nat} {al : Nat × Nat} {N : Nat → Nat → Int64} {n np t D : Nat} {M MM : Nat → Nat → Int32} (h : fn_I n np t M MM) (hD : t + D ≤ 200) (hD2 : D ≤ 21) : ∀ (m k : Nat) (y : Nat → Int32) (v1 v4 v5 v6 v7 v8 v9 v10 v11 : Value), k + m = D → ∃ y' : Nat → Int32, ai_run (d + 3) 196 7 [.ref 0, v1, .int (nI D), .int (nI k), v4, v5, v6, v7, v8, v9, v10, v11] [] (hM al (fn_rw MM 39 y) N) = ai_run (d + 3) 196 9 [.ref 0, ai_un, .int (nI D), .int (nI D), ai_un, ai_un, ai_un, ai_un, ai_un, ai_un, ai_un, ai_un] [] (hM al (fn_rw MM 39 y') N) ∧ (∀ j, k ≤ j → j < D → y' j = nI (fn_need MM (t + j))) ∧ ∀ j, j < k → y' j = y j
  | 0, k, y, v1, v4, v5, v6, v7, v8, v9, v10, v11, hk => by
    have : k = D := by omega
    subst this
    exact ⟨y, by rw [bq_196_7, if_pos Int32.le_rfl], fun j h1 h2 => by omega, fun j _ => rfl⟩
  | m + 1, k, y, v1, v4, v5, v6, v7, v8, v9, v10, v11, hk => by
    have n3 := h.now.2.2.1
    have hy : fn_I n np t M (fn_rw MM 39 y) := h
    have hn : fn_need (fn_rw MM 39 y) (t + k) = fn_need MM (t + k) := fn_need_cg (MM := MM) (MM' := fn_rw MM 39 y) (fun a ha => if_neg (fun e => by rw [e] at ha; exact absurd ha (by decide))) rfl rfl _
    obtain ⟨y', p1, p2, p3⟩ := fl_196a (d := d) (al := al) (N := N) h hD hD2 m (k + 1) (upd y k (nI (fn_need MM (t + k)))) ai_un ai_un ai_un ai_un ai_un ai_un ai_un ai_un ai_un (by omega)
    refine ⟨y', ?_, fun j h1 h2 => ?_, fun j hj => ?_⟩
    · rw [bq_196_7, if_neg (nI_ge (by omega) (by omega)), show (fn_rw MM 39 y) 0 8 = nI t from n3, nI_add, fw_182 hy (by omega), hn, fb_s, bq_196_8, fi_in (by omega), decide_eq_true (by omega), cond_true, nI_clamp (by omega), fn_rw_up, nI_1, p1]
    · by_cases hj : j = k
      · subst hj; rw [p3 j (by omega), pk_us]
      · exact p2 j (by omega) h2
    · rw [p3 j (by omega), pk_un (by omega)]
theorem fr_orlt {s q : Nat} (hb : s.testBit q = false) : s < s ||| 2 ^ q := by
  rcases Nat.lt_or_eq_of_le (Nat.left_le_or (n := s) (m := 2 ^ q)) with h | h
  · exact h
  · have := congrArg (fun x => Nat.testBit x q) h
    simp only [Nat.testBit_or, Nat.testBit_two_pow, decide_eq_true rfl, Bool.or_true, hb] at this
    exact absurd this (by decide)
theorem fl_196p {d : Nat} {al : Nat × Nat} {N : Nat → Nat → Int64} {np t D s : Nat} {A : fr_A} {MM : Nat → Nat → Int32} (hz : fr_Zm np t A MM) (hD : t + D ≤ 200) (hD2 : D ≤ 21) (hs : s < 2 ^ np) (hN : ∀ k, k < D → MM 39 k = nI (A.2.1 k)) : ∀ (m p : Nat) (w e : Nat → Int32) (v1 v5 v6 v7 v8 v9 v10 v11 : Value), p + m = np → fr_U A D w s → (∀ p', p' < p → s.testBit p' = true → ∀ k, k < D → w ((9 * k + p') * 512 + s) = nI (fr_R A (D - 1 - k) k p' s (A.2.2.1 p'))) → ∃ w' e' : Nat → Int32, ai_run (d + 3) 196 11 [.ref 0, v1, .int (nI D), .int (nI s), .int (nI p), v5, v6, v7, v8, v9, v10, v11] [] (hM al (fn_rw (fn_rw MM 38 w) 41 e) N) = ai_run (d + 3) 196 13 [.ref 0, ai_un, .int (nI D), .int (nI s), .int (nI np), ai_un, ai_un, ai_un, ai_un, ai_un, ai_un, ai_un] [] (hM al (fn_rw (fn_rw MM 38 w') 41 e') N) ∧ fr_T A D w' s ∧ ∀ j, j % 512 ≠ s → w' j = w j
  | 0, p, w, e, v1, v5, v6, v7, v8, v9, v10, v11, hp, hU, hT => by
    obtain ⟨⟨z1, z2, z3, z4, z5⟩, -⟩ := id hz
    have : p = np := by omega
    subst this
    exact ⟨w, e, by rw [bq_196_11, show (fn_rw (fn_rw MM 38 w) 41 e) 0 5 = nI p from z4, if_pos Int32.le_rfl], fun p' hp' hb k hk => hT p' (by omega) hb k hk, fun j _ => rfl⟩
  | m + 1, p, w, e, v1, v5, v6, v7, v8, v9, v10, v11, hp, hU, hT => by
    obtain ⟨⟨z1, z2, z3, z4, z5⟩, -⟩ := id hz
    have h512 := fb_512 z1 hs
    have ht := fb_t s h512 p (by omega)
    rw [bq_196_11, show (fn_rw (fn_rw MM 38 w) 41 e) 0 5 = nI np from z4, if_neg (nI_ge (by omega) (by omega))]
    cases hb : s.testBit p with
    | false =>
      rw [hb, decide_eq_false_iff_not] at ht
      obtain ⟨w', e', p1, p2, p3⟩ := fl_196p (d := d) (al := al) (N := N) hz hD hD2 hs hN m (p + 1) w e ai_un ai_un ai_un ai_un ai_un ai_un ai_un ai_un (by omega) hU (fun p' hp' hb' k hk => by
        have : p' ≠ p := fun z => by rw [z, hb] at hb'; exact absurd hb' (by decide)
        exact hT p' (by omega) hb' k hk)
      exact ⟨w', e', by rw [if_neg ht, bq_196_12, nI_1, p1], p2, p3⟩
    | true =>
      rw [hb, decide_eq_true_iff] at ht
      obtain ⟨w1, e1, a1, a2, a3⟩ := fw_195 (d := d) (al := al) (N := N) (v4 := ai_un) (v5 := ai_un) (v6 := ai_un) (v7 := ai_un) hz hD hD2 (p := p) (by omega) hs hN w e hU
      have hU1 : fr_U A D w1 s := fun q hq hqb p' hp' hb' k hk => by
        have hne := fr_orlt hqb
        have ho := fb_512 z1 (fb_or hs (show q < np by omega))
        rw [a3 _ (fun i => by omega)]
        exact hU q hq hqb p' hp' hb' k hk
      obtain ⟨w', e', p1, p2, p3⟩ := fl_196p (d := d) (al := al) (N := N) hz hD hD2 hs hN m (p + 1) w1 e1 ai_un ai_un ai_un ai_un ai_un ai_un ai_un ai_un (by omega) hU1 (fun p' hp' hb' k hk => by
        by_cases hpp : p' = p
        · rw [hpp]; exact a2 k hk
        · rw [a3 _ (fun i => by omega)]
          exact hT p' (by omega) hb' k hk)
      exact ⟨w', e', by rw [if_pos ht, a1, fb_n, bq_196_12, nI_1, p1], p2, fun j hj => by rw [p3 j hj, a3 j (fun i => by omega)]⟩
theorem fl_196s {d : Nat} {al : Nat × Nat} {N : Nat → Nat → Int64} {np t D : Nat} {A : fr_A} {MM : Nat → Nat → Int32} (hz : fr_Zm np t A MM) (hD : t + D ≤ 200) (hD2 : D ≤ 21) (hN : ∀ k, k < D → MM 39 k = nI (A.2.1 k)) : ∀ (s : Nat) (w e : Nat → Int32) (v1 v4 v5 v6 v7 v8 v9 v10 v11 : Value), s < 2 ^ np → (∀ s', s < s' → s' < 2 ^ np → fr_T A D w s') → ∃ w' e' : Nat → Int32, ai_run (d + 3) 196 10 [.ref 0, v1, .int (nI D), .int (nI s), v4, v5, v6, v7, v8, v9, v10, v11] [] (hM al (fn_rw (fn_rw MM 38 w) 41 e) N) = ai_run (d + 3) 196 14 [.ref 0, ai_un, .int (nI D), .int 0, ai_un, ai_un, ai_un, ai_un, ai_un, ai_un, ai_un, ai_un] [] (hM al (fn_rw (fn_rw MM 38 w') 41 e') N) ∧ ∀ s', 0 < s' → s' < 2 ^ np → fr_T A D w' s'
  | 0, w, e, v1, v4, v5, v6, v7, v8, v9, v10, v11, hs, hT => ⟨w, e, by rw [bq_196_10, if_pos (show nI 0 ≤ 0 by decide)]; rfl, hT⟩
  | s + 1, w, e, v1, v4, v5, v6, v7, v8, v9, v10, v11, hs, hT => by
    have h512 := fb_512 hz.1.1 hs
    obtain ⟨w1, e1, a1, a2, a3⟩ := fl_196p (d := d) (al := al) (N := N) hz hD hD2 hs hN np 0 w e ai_un ai_un ai_un ai_un ai_un ai_un ai_un ai_un (by omega) (fun q hq hb => hT _ (fr_orlt hb) (fb_or hs (by have := hz.1.2.2.2.2; omega))) (fun p' hp' => absurd hp' (Nat.not_lt_zero _))
    obtain ⟨w', e', p1, p2⟩ := fl_196s (d := d) (al := al) (N := N) hz hD hD2 hN s w1 e1 ai_un ai_un ai_un ai_un ai_un ai_un ai_un ai_un ai_un (by omega) (fun s' h1 h2 => by
      by_cases hss : s' = s + 1
      · rw [hss]; exact a2
      · intro p hp hb k hk
        have := fb_512 hz.1.1 h2
        rw [a3 _ (by omega)]
        exact hT s' (by omega) h2 p hp hb k hk)
    refine ⟨w', e', ?_, p2⟩
    rw [bq_196_10, if_neg (nI_nle (by omega) (by omega))]
    refine (show _ = _ from a1).trans ?_
    rw [bq_196_13, fi_dec, p1]
/-! goes on -/
theorem fl_193 {d : Nat} {al : Nat × Nat} {N : Nat → Nat → Int64} {np t D m k p s r : Nat} {A : fr_A} {MM : Nat → Nat → Int32} (hz : fr_Zm np t A MM) (hD : t + D ≤ 200) (hD2 : D ≤ 21) (hk : k + m + 2 = D) (hp : p < 9) (hs : s < 2 ^ np) (hU : fr_U A D (MM 38) s) (hr : r ≤ fr_F) : ∀ (n q : Nat) (v4 v5 v7 : Value), q + n = np → ai_run (d + 2) 193 5 [.ref 0, .int (nI k), .int (nI p), .int (nI s), v4, v5, .int (nI (min r (fr_mn (fun q => fr_W A m k p q s) q))), v7, .int (nI q)] [] (hM al MM N) = some (.inl (some (.int (nI (min r (fr_mn (fun q => fr_W A m k p q s) np))))), hM al MM N)
  | 0, q, v4, v5, v7, h => by
    have : q = np := by omega
    subst this
    rw [bq_193_5, show MM 0 5 = nI q from hz.1.2.2.2.1, if_pos Int32.le_rfl, bq_193_8]
  | n + 1, q, v4, v5, v7, h => by
    obtain ⟨⟨z1, z2, z3, z4, z5⟩, -⟩ := id hz
    have hlt := (fr_W_sm hz.2.2.2.2.2 (m := m) (k := k) (p := p) (q := q) (s := s) (by omega)).lt (by omega)
    have hF : fr_F < 2 ^ 31 := by unfold fr_F; omega
    have hmn := fr_mn_le (fun q => fr_W A m k p q s) q
    rw [bq_193_5, show MM 0 5 = nI np from z4, if_neg (nI_ge (by omega) (by omega)), fw_194 (m := m) hz (by omega) (by omega) hp (by omega) hs (fun hb => by
      have := hU.at (q := q) (k := k) (by omega) (by omega) hb
      rw [show D - 2 - k = m by omega] at this
      exact this), fb_s, bq_193_6, fw_212 (by omega) (by omega), fb_s, bq_193_7, nI_1, Nat.min_assoc]
    exact fl_193 hz hD hD2 hk hp hs hU hr n (q + 1) _ _ _ (by omega)
theorem fw_193 {d : Nat} {al : Nat × Nat} {N : Nat → Nat → Int64} {np t D p s : Nat} {A : fr_A} {MM : Nat → Nat → Int32} (hz : fr_Zm np t A MM) (hD : t + D ≤ 200) (hD2 : D ≤ 21) (hp : p < 9) (hs : s < 2 ^ np) (hN : ∀ k, k < D → MM 39 k = nI (A.2.1 k)) (hU : fr_U A D (MM 38) s) : ∀ (m k a : Nat) (v6 v7 v8 : Value), k + m + 1 = D → a ≤ A.2.2.1 p → ai_run (d + m + 2) 193 0 [.ref 0, .int (nI k), .int (nI p), .int (nI s), .int (nI a), .int (nI D), v6, v7, v8] [] (hM al MM N) = some (.inl (some (.int (nI (fr_G A m k p s (A.2.2.1 p - a))))), hM al MM N)
  | 0, k, a, v6, v7, v8, h, ha => by
    rw [bq_193_0, show nI D - 1 = nI (D - 1) from fi_sub (b := 1) (by omega), if_pos (by rw [show D - 1 = k by omega])]
    rfl
  | m + 1, k, a, v6, v7, v8, h, ha => by
    obtain ⟨⟨z1, z2, z3, z4, z5⟩, zS, -, -, zf, zh⟩ := id hz
    obtain ⟨x, y, x1, y1, x2, y2, xy⟩ := zS p hp
    have hfk := zf (k + 1)
    have hne : ¬ nI k = nI (D - 1) := fun z => by
      have := (nI_eq (by omega) (by omega)).mp z
      omega
    have hR := (fr_R_sm zh m (k + 1) p s (A.2.2.1 p - a)).lt (by omega)
    have go : ∀ v4 v5 v7 v8 : Value, ai_run (d + m + 2 + 1) 193 4 [.ref 0, .int (nI k), .int (nI p), .int (nI s), v4, v5, .int (nI (fr_R A m (k + 1) p s (A.2.2.1 p - a))), v7, v8] [] (hM al MM N) = some (.inl (some (.int (nI (fr_G A (m + 1) k p s (A.2.2.1 p - a))))), hM al MM N) := fun v4 v5 v7 v8 => by
      have l := fl_193 (d := d + m + 1) (al := al) (N := N) (m := m) (k := k) hz hD hD2 (by omega) hp hs hU hR.2 np 0 ai_un ai_un ai_un (by omega)
      rw [show fr_mn (fun q => fr_W A m k p q s) 0 = fr_F from rfl, Nat.min_eq_left hR.2] at l
      rw [bq_193_4]
      refine (show _ = _ from l).trans ?_
      rw [fr_G_s, show fr_E A (m + 1) k p s = fr_mn (fun q => fr_W A m k p q s) np by rw [← z5]; rfl]
    rw [show d + (m + 1) + 2 = d + m + 2 + 1 by omega, bq_193_0, show nI D - 1 = nI (D - 1) from fi_sub (b := 1) (by omega), if_neg hne, bq_193_1, nI_1, fi_in (by omega), decide_eq_true (by omega), cond_true, nI_clamp (by omega), hN (k + 1) (by omega), nI_add, show MM 0 8 = nI t from z3, nI_add, nI_1, show t + k + 1 = t + (k + 1) by omega, fw_192 hz (by omega), fb_s, bq_193_2]
    cases ho : A.2.2.2.1 p (k + 1) with
    | false =>
      have e : fr_R A m (k + 1) p s (A.2.2.1 p - a) = fr_F := if_neg (fun z => by rw [ho] at z; exact absurd z.1 (by decide))
      rw [if_pos (show fn_bi false = 0 from rfl), show (1000000000 : Int32) = nI fr_F from rfl, ← e]
      exact go _ _ _ _
    | true =>
      rw [if_neg (show ¬ fn_bi true = 0 by decide), fi_in (by omega), decide_eq_true hp, cond_true, cond_true, nI_clamp (by omega), x2, y2]
      by_cases c1 : x < a + A.2.1 (k + 1)
      · have e : fr_R A m (k + 1) p s (A.2.2.1 p - a) = fr_F := if_neg (fun z => by have := z.2; omega)
        rw [if_pos (nI_lt c1 (by omega)), show (1000000000 : Int32) = nI fr_F from rfl, ← e]
        exact go _ _ _ _
      · rw [if_neg (nI_nlt (by omega) (by omega))]
        by_cases c2 : y < a + A.2.1 (k + 1)
        · have e : fr_R A m (k + 1) p s (A.2.2.1 p - a) = fr_F := if_neg (fun z => by have := z.2; omega)
          rw [if_pos (nI_lt c2 (by omega)), show (1000000000 : Int32) = nI fr_F from rfl, ← e]
          exact go _ _ _ _
        · have e : fr_R A m (k + 1) p s (A.2.2.1 p - a) = fr_G A m (k + 1) p s (A.2.2.1 p - (a + A.2.1 (k + 1))) := by
            unfold fr_R
            rw [if_pos ⟨ho, by omega⟩, Nat.sub_sub]
          rw [if_neg (nI_nlt (by omega) (by omega)), nI_1, fw_193 hz hD hD2 hp hs hN hU m (k + 1) (a + A.2.1 (k + 1)) _ _ _ (by omega) (by omega), fb_s, bq_193_3, ← e]
          exact go _ _ _ _
/-! the way -/
theorem fl_196q {al : Nat × Nat} {N : Nat → Nat → Int64} {np t D m k p s a : Nat} {A : fr_A} {MM : Nat → Nat → Int32} {x3 : Int32} {b : Bool} (hz : fr_Zm np t A MM) (hD : t + D ≤ 200) (hD2 : D ≤ 21) (hk : k + m + 2 = D) (hp : p < 9) (hs : s < 2 ^ np) (hU : fr_U A D (MM 38) s) (hb : b = decide (fr_R A m (k + 1) p s (A.2.2.1 p - a) = fr_G A (m + 1) k p s (A.2.2.1 p - a))) {x9 : Int32} : ∀ (n q : Nat) (v1 v6 : Value), q + n = np → ai_run 200 196 22 [.ref 0, v1, .int (nI D), .int x3, .int (nI p), .int (nI s), v6, .int (nI (fr_G A (m + 1) k p s (A.2.2.1 p - a))), .int (nI k), .int x9, .int (fn_bi b), .int (nI q)] [] (hM al MM N) = ai_run 200 196 26 [.ref 0, ai_un, .int (nI D), .int x3, .int (nI p), .int (nI s), ai_un, .int (nI (fr_G A (m + 1) k p s (A.2.2.1 p - a))), .int (nI k), .int x9, .int (fn_bi b), .int (nI (fr_fd (fr_pk A m k p s (A.2.2.1 p - a)) q n))] [] (hM al MM N)
  | 0, q, v1, v6, h => by
    have : q = np := by omega
    subst this
    rw [bq_196_22, show MM 0 5 = nI q from hz.1.2.2.2.1, if_pos Int32.le_rfl]
    rfl
  | n + 1, q, v1, v6, h => by
    obtain ⟨⟨z1, z2, z3, z4, z5⟩, zS, -, -, zf, zh⟩ := id hz
    have hG := (fr_G_sm zh (m + 1) k p s (A.2.2.1 p - a)).lt (by omega)
    have hW := (fr_W_sm zh (m := m) (k := k) (p := p) (q := q) (s := s) (by omega)).lt (by omega)
    have ih := fl_196q (al := al) (N := N) (x3 := x3) (x9 := x9) hz hD hD2 hk hp hs hU hb n (q + 1) ai_un ai_un (by omega)
    rw [bq_196_22, show MM 0 5 = nI np from z4, if_neg (nI_ge (by omega) (by omega))]
    show _ = ai_run 200 196 26 [.ref 0, ai_un, .int (nI D), .int x3, .int (nI p), .int (nI s), ai_un, .int (nI (fr_G A (m + 1) k p s (A.2.2.1 p - a))), .int (nI k), .int x9, .int (fn_bi b), .int (nI (if fr_pk A m k p s (A.2.2.1 p - a) q = true then q else fr_fd (fr_pk A m k p s (A.2.2.1 p - a)) (q + 1) n))] [] (hM al MM N)
    by_cases hqp : q = p
    · subst hqp
      have ek : fr_pk A m k q s (A.2.2.1 q - a) q = b := by
        rw [hb]
        exact if_pos rfl
      rw [if_pos rfl, ek]
      cases b with
      | false => rw [if_pos (show fn_bi false = 0 from rfl), bq_196_25, nI_1, ih, if_neg (by decide)]
      | true => rw [if_neg (show ¬ fn_bi true = 0 by decide), if_pos rfl]
    · have hne : ¬ nI q = nI p := fun z => hqp ((nI_eq (by omega) (by omega)).mp z)
      have ek : fr_pk A m k p s (A.2.2.1 p - a) q = decide (fr_W A m k p q s = fr_G A (m + 1) k p s (A.2.2.1 p - a)) := if_neg hqp
      rw [if_neg hne, bq_196_23, fw_194 (m := m) hz (by omega) (by omega) hp (by omega) hs (fun hb' => by
        have := hU.at (q := q) (k := k) (by omega) (by omega) hb'
        rw [show D - 2 - k = m by omega] at this
        exact this), fb_s, bq_196_24, ek]
      by_cases c : fr_W A m k p q s = fr_G A (m + 1) k p s (A.2.2.1 p - a)
      · rw [if_pos (by rw [c]), if_pos (decide_eq_true c)]
      · rw [if_neg (fun z => c ((nI_eq (by omega) (by omega)).mp z)), bq_196_25, nI_1, ih, if_neg (fun z => c (of_decide_eq_true z))]
theorem fl_196t {al : Nat × Nat} {N : Nat → Nat → Int64} {np t D : Nat} {A : fr_A} {MM : Nat → Nat → Int32} {x3 : Int32} (hz : fr_Zm np t A MM) (hD : t + D ≤ 200) (hD2 : D ≤ 21) (hN : ∀ k, k < D → MM 39 k = nI (A.2.1 k)) (hT : ∀ s, 0 < s → s < 2 ^ np → fr_T A D (MM 38) s) : ∀ (m k p s a : Nat) (r : Nat → Int32) (v1 v9 v10 v11 : Value), k + m + 1 = D → p < np → s < 2 ^ np → s.testBit p = true → a ≤ A.2.2.1 p → fr_G A m k p s (A.2.2.1 p - a) ≠ fr_F → ∃ r' : Nat → Int32, ai_run 200 196 17 [.ref 0, v1, .int (nI D), .int x3, .int (nI p), .int (nI s), .int (nI a), .int (nI (fr_G A m k p s (A.2.2.1 p - a))), .int (nI k), v9, v10, v11] [] (hM al (fn_rw MM 40 r) N) = some (.inl (some (.int x3)), hM al (fn_noM (fn_rw MM 40 r') 0) N) ∧ (∀ j, k < j → j < D → r' j = nI (fr_st A m k p s (A.2.2.1 p - a) j)) ∧ ∀ j, j ≤ k → r' j = r j
  | 0, k, p, s, a, r, v1, v9, v10, v11, h, hp, hs, hb, ha, hf => by
    refine ⟨r, ?_, fun j h1 h2 => by omega, fun j _ => rfl⟩
    rw [bq_196_17, nI_1, if_pos (nI_le (a := D) (b := k + 1) (by omega) (by omega)), bq_196_30, bq_146_0, fb_s, bq_196_31]
    rfl
  | m + 1, k, p, s, a, r, v1, v9, v10, v11, h, hp, hs, hb, ha, hf => by
    obtain ⟨⟨z1, z2, z3, z4, z5⟩, zS, zo, zw, zf, zh⟩ := id hz
    obtain ⟨x, y, x1, y1, x2, y2, xy⟩ := zS p (by omega)
    have hzr : fr_Zm np t A (fn_rw MM 40 r) := hz
    have hUr : fr_U A D ((fn_rw MM 40 r) 38) s := fun q hq hqb => hT _ (by have := fr_orlt hqb; omega) (fb_or hs (by omega))
    have hfk := zf (k + 1)
    have hG := (fr_G_sm zh (m + 1) k p s (A.2.2.1 p - a)).lt (by omega)
    have hnx := fr_nx_at (m := m) (k := k) (l := A.2.2.1 p - a) (show p < A.1 by omega) hb hf
    -- what is chosen, and what follows
    have fin : ∀ (v10 : Value), ∃ r' : Nat → Int32, ai_run 200 196 26 [.ref 0, ai_un, .int (nI D), .int x3, .int (nI p), .int (nI s), ai_un, .int (nI (fr_G A (m + 1) k p s (A.2.2.1 p - a))), .int (nI k), .int (nI (a + A.2.1 (k + 1))), v10, .int (nI (fr_nx A m k p s (A.2.2.1 p - a)))] [] (hM al (fn_rw MM 40 r) N) = some (.inl (some (.int x3)), hM al (fn_noM (fn_rw MM 40 r') 0) N) ∧ (∀ j, k < j → j < D → r' j = nI (fr_st A (m + 1) k p s (A.2.2.1 p - a) j)) ∧ ∀ j, j ≤ k → r' j = r j := by
      intro v10
      by_cases hq : fr_nx A m k p s (A.2.2.1 p - a) = p
      · obtain ⟨s1, s2, s3⟩ := fr_stay (show p < A.1 by omega) hb hf hq
        rw [Nat.sub_sub] at s3
        obtain ⟨r', p1, p2, p3⟩ := fl_196t (al := al) (N := N) (x3 := x3) hz hD hD2 hN hT m (k + 1) p s (a + A.2.1 (k + 1)) (upd r (k + 1) (nI p)) ai_un ai_un ai_un ai_un (by omega) hp hs hb (by omega) (by rw [s3]; exact hf)
        refine ⟨r', ?_, fun j h1 h2 => ?_, fun j hj => ?_⟩
        · rw [bq_196_26, hq, if_pos rfl, bq_196_29, nI_1, fi_in (by omega), decide_eq_true (by omega), cond_true, nI_clamp (by omega), fn_rw_up, ← s3]
          exact p1
        · show r' j = nI (if j ≤ k then p else if fr_nx A m k p s (A.2.2.1 p - a) = p then fr_st A m (k + 1) p s (A.2.2.1 p - a - A.2.1 (k + 1)) j else _)
          rw [if_neg (by omega), if_pos hq, Nat.sub_sub]
          by_cases hj : j = k + 1
          · subst hj
            rw [p3 _ (Nat.le_refl _), pk_us]
            cases m with
            | zero => rfl
            | succ m => exact congrArg nI (if_pos (Nat.le_refl _)).symm
          · exact p2 j (by omega) h2
        · rw [p3 j (by omega), pk_un (by omega)]
      · obtain ⟨q, hqe⟩ : ∃ q, q = fr_nx A m k p s (A.2.2.1 p - a) := ⟨_, rfl⟩
        rw [← hqe] at hq ⊢
        obtain ⟨q1, q2, q3, q4, q5, q6, q7⟩ := fr_move (show p < A.1 by omega) hb hf hqe.symm hq
        have h16 := zh p q k
        have hne : ¬ nI q = nI p := fun z => hq ((nI_eq (by omega) (by omega)).mp z)
        have hGq := (fr_G_sm zh m (k + 1) q (s ||| 2 ^ q) (A.2.2.1 q - A.2.1 (k + 1))).lt (by omega)
        obtain ⟨r', p1, p2, p3⟩ := fl_196t (al := al) (N := N) (x3 := x3) hz hD hD2 hN hT m (k + 1) q (s ||| 2 ^ q) (A.2.1 (k + 1)) (upd r (k + 1) (nI q)) ai_un ai_un ai_un (.int (nI q)) (by omega) (by omega) (fb_or hs (by omega)) (by rw [Nat.testBit_or, Nat.testBit_two_pow, decide_eq_true rfl, Bool.or_true]) q5 q7
        refine ⟨r', ?_, fun j h1 h2 => ?_, fun j hj => ?_⟩
        · rw [bq_196_26, if_neg hne, bq_196_27, show (fn_rw MM 40 r) 0 8 = nI t from z3, nI_add, fr_1 hzr (by omega) (by omega) (by omega), if_neg q3, fb_s, bq_196_28, nI_1, fi_in (by omega), decide_eq_true (by omega), cond_true, nI_clamp (by omega), show (fn_rw MM 40 r) 39 (k + 1) = nI (A.2.1 (k + 1)) from hN (k + 1) (by omega), fb_o s (fb_512 z1 hs) q (by omega), ← q6, fi_sub (by omega), Nat.add_sub_cancel_left, bq_196_29, nI_1, fi_in (by omega), decide_eq_true (by omega), cond_true, nI_clamp (by omega), fn_rw_up]
          refine Eq.trans ?_ p1
          rw [bq_196_17, bq_196_17]
        · show r' j = nI (if j ≤ k then p else if fr_nx A m k p s (A.2.2.1 p - a) = p then _ else fr_st A m (k + 1) (fr_nx A m k p s (A.2.2.1 p - a)) (s ||| 2 ^ fr_nx A m k p s (A.2.2.1 p - a)) (A.2.2.1 (fr_nx A m k p s (A.2.2.1 p - a)) - A.2.1 (k + 1)) j)
          rw [← hqe, if_neg (by omega), if_neg hq]
          by_cases hj : j = k + 1
          · subst hj
            rw [p3 _ (Nat.le_refl _), pk_us]
            cases m with
            | zero => rfl
            | succ m => exact congrArg nI (if_pos (Nat.le_refl _)).symm
          · exact p2 j (by omega) h2
        · rw [p3 j (by omega), pk_un (by omega)]
    have go : ∀ b : Bool, b = decide (fr_R A m (k + 1) p s (A.2.2.1 p - a) = fr_G A (m + 1) k p s (A.2.2.1 p - a)) → ∃ r' : Nat → Int32, ai_run 200 196 21 [.ref 0, ai_un, .int (nI D), .int x3, .int (nI p), .int (nI s), ai_un, .int (nI (fr_G A (m + 1) k p s (A.2.2.1 p - a))), .int (nI k), .int (nI (a + A.2.1 (k + 1))), ai_un, ai_un] [.int (fn_bi b)] (hM al (fn_rw MM 40 r) N) = some (.inl (some (.int x3)), hM al (fn_noM (fn_rw MM 40 r') 0) N) ∧ (∀ j, k < j → j < D → r' j = nI (fr_st A (m + 1) k p s (A.2.2.1 p - a) j)) ∧ ∀ j, j ≤ k → r' j = r j := by
      intro b hbe
      have l := fl_196q (al := al) (N := N) (x3 := x3) (x9 := nI (a + A.2.1 (k + 1))) hzr hD hD2 (by omega) (show p < 9 by omega) hs hUr hbe np 0 ai_un ai_un (by omega)
      obtain ⟨r', p1, p2, p3⟩ := fin (.int (fn_bi b))
      refine ⟨r', ?_, p2, p3⟩
      rw [bq_196_21]
      refine (show _ = _ from l).trans ?_
      rw [← z5]
      exact p1
    rw [bq_196_17, nI_1, if_neg (nI_ge (a := k + 1) (b := D) (by omega) (by omega)), fi_in (by omega), decide_eq_true (by omega), cond_true, nI_clamp (by omega), show (fn_rw MM 40 r) 39 (k + 1) = nI (A.2.1 (k + 1)) from hN (k + 1) (by omega), nI_add, show (fn_rw MM 40 r) 0 8 = nI t from z3, nI_add, nI_1, show t + k + 1 = t + (k + 1) by omega, fw_192 hzr (by omega), fb_s, bq_196_18]
    have no : fr_R A m (k + 1) p s (A.2.2.1 p - a) = fr_F → false = decide (fr_R A m (k + 1) p s (A.2.2.1 p - a) = fr_G A (m + 1) k p s (A.2.2.1 p - a)) := fun e => by
      rw [e]
      exact (decide_eq_false (fun z => hf z.symm)).symm
    cases ho : A.2.2.2.1 p (k + 1) with
    | false =>
      rw [if_pos (show fn_bi false = 0 from rfl), bq_196_20]
      exact go false (no (if_neg (fun z => by rw [ho] at z; exact absurd z.1 (by decide))))
    | true =>
      rw [if_neg (show ¬ fn_bi true = 0 by decide), fi_in (by omega), decide_eq_true (by omega), cond_true, cond_true, nI_clamp (by omega), show (fn_rw MM 40 r) 5 p = nI x from x2, show (fn_rw MM 40 r) 6 p = nI y from y2]
      by_cases c1 : x < a + A.2.1 (k + 1)
      · rw [if_pos (nI_lt c1 (by omega)), bq_196_20]
        exact go false (no (if_neg (fun z => by have := z.2; omega)))
      · rw [if_neg (nI_nlt (by omega) (by omega))]
        by_cases c2 : y < a + A.2.1 (k + 1)
        · rw [if_pos (nI_lt c2 (by omega)), bq_196_20]
          exact go false (no (if_neg (fun z => by have := z.2; omega)))
        · have e : fr_R A m (k + 1) p s (A.2.2.1 p - a) = fr_G A m (k + 1) p s (A.2.2.1 p - (a + A.2.1 (k + 1))) := by
            unfold fr_R
            rw [if_pos ⟨ho, by omega⟩, Nat.sub_sub]
          have hR := (fr_G_sm zh m (k + 1) p s (A.2.2.1 p - (a + A.2.1 (k + 1)))).lt (by omega)
          have w := fw_193 (d := 197 - m) (al := al) (N := N) hzr hD hD2 (show p < 9 by omega) hs hN hUr m (k + 1) (a + A.2.1 (k + 1)) ai_un ai_un ai_un (by omega) (by omega)
          rw [show 197 - m + m + 2 = 199 by omega] at w
          rw [if_neg (nI_nlt (by omega) (by omega)), nI_1, w, fb_s, bq_196_19]
          by_cases c : fr_G A m (k + 1) p s (A.2.2.1 p - (a + A.2.1 (k + 1))) = fr_G A (m + 1) k p s (A.2.2.1 p - a)
          · rw [if_pos (by rw [c])]
            exact go true (by rw [e]; exact (decide_eq_true c).symm)
          · rw [if_neg (fun z => c ((nI_eq (by omega) (by omega)).mp z)), bq_196_20]
            exact go false (by rw [e]; exact (decide_eq_false c).symm)
