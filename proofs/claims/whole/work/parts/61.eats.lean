/-! what is eaten: the reference's side, and eats -/
theorem fw_179 {d : Nat} {al : Nat × Nat} {N : Nat → Nat → Int64} {x h day : Nat} {M : Nat → Nat → Int32} (hx : x ≤ 5) (hh : h < 8) (hd : day < 200) : ai_run d 179 0 [.ref 0, .int (nI x), .int (nI h), .int (nI day)] [] (hM al M N) = some (.inl (some (.int (fn_V M h day x))), hM al M N) := by
  have ih : ai_in (nI h) 8 = true := by rw [fi_in (by omega)]; exact decide_eq_true hh
  have id : ai_in (nI day) 200 = true := by rw [fi_in (by omega)]; exact decide_eq_true hd
  rw [bq_179_0, nI_toInt (by omega)]
  rcases (show x = 0 ∨ x = 1 ∨ x = 2 ∨ x = 3 ∨ x = 4 ∨ x = 5 by omega) with e | e | e | e | e | e <;> subst e
  · rw [if_neg (by omega), show ([1, 2, 3, 4, 5] : List Nat).getD (((0 : Nat) : Int) - 0).toNat 0 = 1 from rfl, bq_179_1, ih, cond_true, nI_clamp (by omega)]
    rfl
  · rw [if_neg (by omega), show ([1, 2, 3, 4, 5] : List Nat).getD (((1 : Nat) : Int) - 0).toNat 0 = 2 from rfl, bq_179_2, ih, cond_true, nI_clamp (by omega)]
    rfl
  · rw [if_neg (by omega), show ([1, 2, 3, 4, 5] : List Nat).getD (((2 : Nat) : Int) - 0).toNat 0 = 3 from rfl, bq_179_3, ih, cond_true, nI_clamp (by omega)]
    rfl
  · rw [if_neg (by omega), show ([1, 2, 3, 4, 5] : List Nat).getD (((3 : Nat) : Int) - 0).toNat 0 = 4 from rfl, bq_179_4]
    rfl
  · rw [if_neg (by omega), show ([1, 2, 3, 4, 5] : List Nat).getD (((4 : Nat) : Int) - 0).toNat 0 = 5 from rfl, bq_179_5, id, cond_true, nI_clamp (by omega)]
    rfl
  · rw [if_pos (by omega), bq_179_6, id, cond_true, nI_clamp (by omega)]
    by_cases c : M 16 day = -1
    · rw [if_pos c, bq_179_8, show fn_V M h day 5 = 0 from if_pos c]
    · rw [if_neg c, bq_179_7, bq_179_8, show fn_V M h day 5 = 1 from if_neg c]
theorem fl_180t {d : Nat} {al : Nat × Nat} {N : Nat → Nat → Int64} {h day p q : Nat} {M : Nat → Nat → Int32} {kd x4 : Int32} (hh : h < 8) (hd : day < 200) (hp : p < 132) (hq : q ≤ 4) (h26 : M 26 p = nI q) (hr : ∀ k : Nat, k < q → ∃ x : Nat, x ≤ 5 ∧ M 29 (4 * p + k) = nI x) : ∀ (m k : Nat) (b : Bool) (v8 : Value), k + m = q → ai_run (d + 1) 180 6 [.ref 0, .int (nI h), .int (nI day), .int kd, .int x4, .int (nI p), .int (fn_bi b), .int (nI (4 * p + k)), v8] [] (hM al M N) = ai_run (d + 1) 180 13 [.ref 0, .int (nI h), .int (nI day), .int kd, .int x4, .int (nI p), .int (fn_bi (b && fn_fr (fn_P M (fn_V M h day) p) k m)), .int (nI (4 * p + q)), ai_un] [] (hM al M N)
  | 0, k, b, v8, hk => by
    have : k = q := by omega
    subst this
    rw [bq_180_6, fi_in (by omega), decide_eq_true (by omega), cond_true, nI_clamp (by omega), h26, show (4 : Int32) = nI 4 from rfl, pk_mul, nI_add, if_pos Int32.le_rfl, show (b && fn_fr (fn_P M (fn_V M h day) p) k 0) = b from Bool.and_true b]
  | m + 1, k, b, v8, hk => by
    obtain ⟨x, x1, x2⟩ := hr k (by omega)
    have i5 : ai_in (nI (4 * p + k)) 528 = true := by rw [fi_in (by omega)]; exact decide_eq_true (by omega)
    have eP : fn_P M (fn_V M h day) p k = fn_tst (fn_V M h day x) (M 30 (4 * p + k)) (M 31 (4 * p + k)) := by
      unfold fn_P
      rw [x2, nI_clamp (by omega)]
    have go : ∀ c : Bool, (b && fn_P M (fn_V M h day) p k) = c → ai_run (d + 1) 180 12 [.ref 0, .int (nI h), .int (nI day), .int kd, .int x4, .int (nI p), ai_un, .int (nI (4 * p + k)), ai_un] [.int (fn_bi c)] (hM al M N) = ai_run (d + 1) 180 13 [.ref 0, .int (nI h), .int (nI day), .int kd, .int x4, .int (nI p), .int (fn_bi (b && fn_fr (fn_P M (fn_V M h day) p) k (m + 1))), .int (nI (4 * p + q)), ai_un] [] (hM al M N) := by
      intro c hc
      rw [bq_180_12, nI_1, show 4 * p + k + 1 = 4 * p + (k + 1) by omega, fl_180t hh hd hp hq h26 hr m (k + 1) c _ (by omega), ← hc, Bool.and_assoc]
      rfl
    rw [bq_180_6, fi_in (by omega), decide_eq_true (by omega), cond_true, nI_clamp (by omega), h26, show (4 : Int32) = nI 4 from rfl, pk_mul, nI_add, if_neg (nI_ge (by omega) (by omega)), i5, cond_true, nI_clamp (by omega), x2, fw_179 x1 hh hd, fb_s, bq_180_7]
    cases b with
    | false =>
      rw [if_pos (show fn_bi false = 0 from rfl), bq_180_11]
      exact go false rfl
    | true =>
      rw [if_neg (show ¬ fn_bi true = 0 by decide), i5, cond_true, cond_true, nI_clamp (by omega)]
      by_cases c1 : M 30 (4 * p + k) = 60
      · rw [if_pos c1]
        by_cases c2 : fn_V M h day x < M 31 (4 * p + k)
        · rw [if_neg (Int32.not_le.mpr c2), bq_180_10]
          exact go true (by rw [eP, Bool.true_and]; unfold fn_tst; rw [if_pos c1, decide_eq_true c2])
        · rw [if_pos (Int32.not_lt.mp c2), bq_180_11]
          exact go false (by rw [eP, Bool.true_and]; unfold fn_tst; rw [if_pos c1, decide_eq_false c2])
      · rw [if_neg c1, bq_180_8, i5, cond_true, cond_true, nI_clamp (by omega)]
        by_cases c3 : M 30 (4 * p + k) = 62
        · rw [if_pos c3]
          by_cases c2 : M 31 (4 * p + k) < fn_V M h day x
          · rw [if_neg (Int32.not_le.mpr c2), bq_180_10]
            exact go true (by rw [eP, Bool.true_and]; unfold fn_tst; rw [if_neg c1, if_pos c3, decide_eq_true c2])
          · rw [if_pos (Int32.not_lt.mp c2), bq_180_11]
            exact go false (by rw [eP, Bool.true_and]; unfold fn_tst; rw [if_neg c1, if_pos c3, decide_eq_false c2])
        · rw [if_neg c3, bq_180_9, i5, cond_true, nI_clamp (by omega)]
          by_cases c2 : fn_V M h day x = M 31 (4 * p + k)
          · rw [if_pos c2, bq_180_10]
            exact go true (by rw [eP, Bool.true_and]; unfold fn_tst; rw [if_neg c1, if_neg c3, decide_eq_true c2])
          · rw [if_neg c2, bq_180_11]
            exact go false (by rw [eP, Bool.true_and]; unfold fn_tst; rw [if_neg c1, if_neg c3, decide_eq_false c2])
theorem fl_180s {d : Nat} {al : Nat × Nat} {N : Nat → Nat → Int64} {h day p q : Nat} {M : Nat → Nat → Int32} (hh : h < 8) (hd : day < 200) (hp : p < 132) (hq : q ≤ 4) (h27 : M 27 p = nI q) (hr : ∀ k : Nat, k < q → M 32 (4 * p + k) = -1 ∨ ∃ x : Nat, x ≤ 5 ∧ M 32 (4 * p + k) = nI x) : ∀ (m k : Nat) (a : Int32) (v3 v4 v6 : Value), k + m = q → ai_run (d + 1) 180 15 [.ref 0, .int (nI h), .int (nI day), v3, v4, .int (nI p), v6, .int a, .int (nI (4 * p + k))] [] (hM al M N) = some (.inl (some (.int (fn_sm (fn_T M (fn_V M h day) p) a k m))), hM al M N)
  | 0, k, a, v3, v4, v6, hk => by
    have : k = q := by omega
    subst this
    rw [bq_180_15, fi_in (by omega), decide_eq_true (by omega), cond_true, nI_clamp (by omega), h27, show (4 : Int32) = nI 4 from rfl, pk_mul, nI_add, if_pos Int32.le_rfl, bq_180_18]
    rfl
  | m + 1, k, a, v3, v4, v6, hk => by
    have i5 : ai_in (nI (4 * p + k)) 528 = true := by rw [fi_in (by omega)]; exact decide_eq_true (by omega)
    have go : ∀ y : Int32, M 33 (4 * p + k) * y = fn_T M (fn_V M h day) p k → ai_run (d + 1) 180 17 [.ref 0, .int (nI h), .int (nI day), ai_un, ai_un, .int (nI p), ai_un, ai_un, .int (nI (4 * p + k))] [.int y, .int (M 33 (4 * p + k)), .int a] (hM al M N) = some (.inl (some (.int (fn_sm (fn_T M (fn_V M h day) p) a k (m + 1)))), hM al M N) := by
      intro y hy
      rw [bq_180_17, nI_1, show 4 * p + k + 1 = 4 * p + (k + 1) by omega, hy, fl_180s hh hd hp hq h27 hr m (k + 1) _ _ _ _ (by omega)]
      rfl
    rw [bq_180_15, fi_in (by omega), decide_eq_true (by omega), cond_true, nI_clamp (by omega), h27, show (4 : Int32) = nI 4 from rfl, pk_mul, nI_add, if_neg (nI_ge (by omega) (by omega)), i5, cond_true, cond_true, nI_clamp (by omega)]
    rcases hr k (by omega) with e | ⟨x, x1, x2⟩
    · rw [if_pos e]
      have g := go 1 (by unfold fn_T; rw [if_pos e])
      rw [bq_180_17] at g ⊢
      exact g
    · rw [x2, if_neg (fi_m1 (by omega)), bq_180_16, i5, cond_true, nI_clamp (by omega), x2, fw_179 x1 hh hd, fb_s]
      exact go _ (by unfold fn_T; rw [x2, if_neg (fi_m1 (by omega)), nI_clamp (by omega)])
theorem fl_180 {d : Nat} {al : Nat × Nat} {N : Nat → Nat → Int64} {h day o mm : Nat} {M : Nat → Nat → Int32} {kd : Int32} {r26 : Nat → Int32} (hh : h < 8) (hd : day < 200) (ho : o < 10) (hm : mm ≤ 12) (h25 : M 25 o = nI mm) (hr : ∀ r, r < mm → fn_R M (12 * o + r) r26) : ∀ (m r : Nat) (v6 v7 v8 : Value), r + m = mm → ai_run (d + 1) 180 3 [.ref 0, .int (nI h), .int (nI day), .int kd, .int (nI o), .int (nI (12 * o + r)), v6, v7, v8] [] (hM al M N) = some (.inl (some (.int (fn_fs (fun r => fn_ok M (fn_V M h day) kd (12 * o + r)) (fun r => fn_su M (fn_V M h day) (12 * o + r)) r m))), hM al M N)
  | 0, r, v6, v7, v8, hk => by
    have : r = mm := by omega
    subst this
    rw [bq_180_3, if_neg (nI_pos (by omega)), fi_in (by omega), decide_eq_true (by omega), cond_true, nI_clamp (by omega), h25, show (12 : Int32) = nI 12 from rfl, pk_mul, nI_add, if_pos Int32.le_rfl, bq_180_20]
    rfl
  | m + 1, r, v6, v7, v8, hk => by
    obtain ⟨⟨-, -⟩, ⟨q, q1, q2, q3, q4⟩, u, u1, u2, u3, u4⟩ := hr r (by omega)
    show _ = some (Sum.inl (some (Value.int (bif fn_ok M (fn_V M h day) kd (12 * o + r) then fn_su M (fn_V M h day) (12 * o + r) else fn_fs (fun r => fn_ok M (fn_V M h day) kd (12 * o + r)) (fun r => fn_su M (fn_V M h day) (12 * o + r)) (r + 1) m))), hM al M N)
    have eo : fn_ok M (fn_V M h day) kd (12 * o + r) = (decide (M 28 (12 * o + r) = kd) && fn_fr (fn_P M (fn_V M h day) (12 * o + r)) 0 q) := by
      unfold fn_ok
      rw [q3, nI_clamp (by omega)]
    have go : ∀ b : Bool, decide (M 28 (12 * o + r) = kd) = b → ai_run (d + 1) 180 5 [.ref 0, .int (nI h), .int (nI day), .int kd, .int (nI o), .int (nI (12 * o + r)), ai_un, ai_un, ai_un] [.int (fn_bi b)] (hM al M N) = some (Sum.inl (some (Value.int (bif fn_ok M (fn_V M h day) kd (12 * o + r) then fn_su M (fn_V M h day) (12 * o + r) else fn_fs (fun r => fn_ok M (fn_V M h day) kd (12 * o + r)) (fun r => fn_su M (fn_V M h day) (12 * o + r)) (r + 1) m))), hM al M N) := by
      intro b hb
      have l := fl_180t (d := d) (al := al) (N := N) (x4 := nI o) (kd := kd) hh hd (show 12 * o + r < 132 by omega) q1 q3 (fun k hk => (q4 k hk).1.2) q 0 b ai_un (by omega)
      rw [show 4 * (12 * o + r) + 0 = 4 * (12 * o + r) from rfl] at l
      rw [bq_180_5, show (4 : Int32) = nI 4 from rfl, pk_mul, l, bq_180_13, eo, hb]
      cases hc : (b && fn_fr (fn_P M (fn_V M h day) (12 * o + r)) 0 q) with
      | false =>
        rw [if_pos (show fn_bi false = 0 from rfl), bq_180_19, nI_1, show 12 * o + r + 1 = 12 * o + (r + 1) by omega, fl_180 hh hd ho hm h25 hr m (r + 1) _ _ _ (by omega), cond_false]
      | true =>
        have l2 := fl_180s (d := d) (al := al) (N := N) hh hd (show 12 * o + r < 132 by omega) u1 u3 (fun k hk => (u4 k hk).2.imp (fun g => g.1) (fun ⟨x, x1, x2, _⟩ => ⟨x, x1, x2⟩)) u 0 0 ai_un ai_un ai_un (by omega)
        rw [show 4 * (12 * o + r) + 0 = 4 * (12 * o + r) from rfl] at l2
        rw [if_neg (show ¬ fn_bi true = 0 by decide), bq_180_14, show (4 : Int32) = nI 4 from rfl, pk_mul, l2, cond_true]
        unfold fn_su
        rw [u3, nI_clamp (by omega)]
    rw [bq_180_3, if_neg (nI_pos (by omega)), fi_in (by omega), decide_eq_true (by omega), cond_true, nI_clamp (by omega), h25, show (12 : Int32) = nI 12 from rfl, pk_mul, nI_add, if_neg (nI_ge (by omega) (by omega)), fi_in (by omega), decide_eq_true (by omega), cond_true, nI_clamp (by omega)]
    by_cases c : M 28 (12 * o + r) = kd
    · rw [if_pos c]
      exact go true (decide_eq_true c)
    · rw [if_neg c, bq_180_4]
      exact go false (decide_eq_false c)
abbrev fn_RL (M MM : Nat → Nat → Int32) (k : Nat) : Prop := ∀ o : Nat, o < k → (∃ f : Nat, f < 200 ∧ M 24 o = nI f ∧ MM 24 o = nI f) ∧ ∃ m : Nat, m ≤ 12 ∧ M 25 o = nI m ∧ MM 25 o = nI m ∧ ∀ r : Nat, r < m → fn_R MM (12 * o + r) (M 26)
theorem fw_180 {d : Nat} {al : Nat × Nat} {N : Nat → Nat → Int64} {h day k : Nat} {M MM : Nat → Nat → Int32} {kd : Int32} (hh : h < 8) (hd : day < 200) (hk : k ≤ 10) (h41 : MM 0 41 = nI k) (hr : fn_RL M MM k) {v4 v5 v6 v7 v8 : Value} : ai_run (d + 1) 180 0 [.ref 0, .int (nI h), .int (nI day), .int kd, v4, v5, v6, v7, v8] [] (hM al MM N) = some (.inl (some (.int (fn_et MM k h day kd))), hM al MM N) := by
  rw [bq_180_0, fw_177 hk h41, fb_s, bq_180_1, bq_211_0]
  unfold fn_et
  rcases fc_in MM k day with e | ⟨o, o1, o2⟩
  · rw [e, if_pos (by decide), if_pos (by decide), bq_211_1, bq_211_2, fb_s, bq_180_2, bq_180_3, if_pos (by decide), bq_180_20]
  · obtain ⟨-, m, m1, m2, m3, m4⟩ := hr o o1
    have l := fl_180 (d := d) (al := al) (N := N) (kd := kd) hh hd (show o < 10 by omega) m1 m3 m4 m 0 ai_un ai_un ai_un (by omega)
    rw [show 12 * o + 0 = 12 * o from rfl] at l
    rw [o2, if_neg (nI_pos (by omega)), if_neg (nI_pos (by omega)), bq_211_2, fb_s, bq_180_2, show (12 : Int32) = nI 12 from rfl, pk_mul, l, nI_clamp (by omega)]
    unfold fn_ea
    rw [m3, nI_clamp (by omega)]
/-! the class's values -/
def fn_vd (MM : Nat → Nat → Int32) (day : Nat) (g : Nat → Int32) : Nat → Int32 := upd (upd (upd g 3 (nI day)) 4 (MM 15 day)) 5 (if MM 16 day = -1 then 0 else 1)
def fn_vh (MM : Nat → Nat → Int32) (h : Nat) (g : Nat → Int32) : Nat → Int32 := upd (upd (upd g 0 (MM 1 h)) 1 (MM 2 h)) 2 (MM 3 h)
theorem fw_2 {d : Nat} {al : Nat × Nat} {kl day : Nat} {M : Nat → Nat → Int32} (hd : day < 200) : ai_run (d + 1) 2 0 [.ref 20, .int (nI day)] [] (hC al kl M) = some (.inl (some (.int (M 21 day))), hC al kl M) := by
  have g : 0 ≤ nI day ∧ nI day < 200 := ⟨nI_pos' (by omega), fj_gt (c := 200) (n := 200) rfl hd (by omega)⟩
  rw [bq_2_0, fw_141, fb_s, bq_2_1, if_neg (fun q => fn_b0.mp q g), fi_in (by omega), decide_eq_true hd, cond_true, nI_clamp (by omega), bq_2_3]
theorem fw_3 {d : Nat} {al : Nat × Nat} {kl day : Nat} {M : Nat → Nat → Int32} (hd : day < 200) : ai_run (d + 1) 3 0 [.ref 20, .int (nI day)] [] (hC al kl M) = some (.inl (some (.int (M 22 day))), hC al kl M) := by
  have g : 0 ≤ nI day ∧ nI day < 200 := ⟨nI_pos' (by omega), fj_gt (c := 200) (n := 200) rfl hd (by omega)⟩
  rw [bq_3_0, fw_141, fb_s, bq_3_1, if_neg (fun q => fn_b0.mp q g), fi_in (by omega), decide_eq_true hd, cond_true, nI_clamp (by omega), bq_3_3]
theorem fw_82 {d : Nat} {al : Nat × Nat} {kl day : Nat} {M MM : Nat → Nat → Int32} {g : Nat → Int32} (hd : day < 200) (h1 : M 21 day = MM 15 day) (h2 : M 22 day = MM 16 day) : ai_run (d + 2) 82 0 [.ref 23, .int (nI day)] [] (hC al kl (fn_rw M 27 g)) = some (.inl none, hC al kl (fn_rw M 27 (fn_vd MM day g))) := by
  rw [bq_82_0, fw_2 hd, fb_s, bq_82_1, show ai_in 4 7 = true from rfl, cond_true, fw_3 hd, fb_s, bq_82_2, fn_rw_up, show (4 : Int32).toNatClampNeg = 4 from rfl, fn_rw_up, show (fn_rw M 27 (upd g 3 (nI day))) 21 day = MM 15 day from h1, show (fn_rw M 27 (upd (upd g 3 (nI day)) 4 (MM 15 day))) 22 day = MM 16 day from h2]
  unfold fn_vd
  by_cases c : MM 16 day = -1
  · rw [if_pos c, bq_82_4, show ai_in 5 7 = true from rfl, cond_true, show (5 : Int32).toNatClampNeg = 5 from rfl, fn_rw_up, if_pos c]
  · rw [if_neg c, bq_82_3, bq_82_4, show ai_in 5 7 = true from rfl, cond_true, show (5 : Int32).toNatClampNeg = 5 from rfl, fn_rw_up, if_neg c]
theorem fw_83 {d : Nat} {al : Nat × Nat} {kl h n : Nat} {M MM : Nat → Nat → Int32} {g : Nat → Int32} (hn : n ≤ 8) (hh : h < n) (h0 : M 4 0 = nI n) (h1 : M 5 h = MM 1 h) (h2 : M 6 h = MM 2 h) (h3 : M 7 h = MM 3 h) : ai_run (d + 1) 83 0 [.ref 23, .int (nI h)] [] (hC al kl (fn_rw M 27 g)) = some (.inl none, hC al kl (fn_rw M 27 (fn_vh MM h g))) := by
  have q0 : 0 ≤ nI h ∧ nI h < (fn_rw M 27 g) 4 0 := ⟨nI_pos' (by omega), fj_gt (show (fn_rw M 27 g) 4 0 = nI n from h0) hh (by omega)⟩
  rw [bq_83_0, fw_7, fb_s, bq_83_1, if_neg (fun q => fn_b0.mp q q0), fi_in (by omega), decide_eq_true (show h < 8 by omega), cond_true, cond_true, cond_true, nI_clamp (by omega), fn_rw_up, fn_rw_up, fn_rw_up, show (fn_rw M 27 g) 5 h = MM 1 h from h1, show (fn_rw M 27 g) 6 h = MM 2 h from h2, show (fn_rw M 27 g) 7 h = MM 3 h from h3, bq_83_2]
  rfl
theorem fn_vv {MM : Nat → Nat → Int32} {h day : Nat} {g : Nat → Int32} (h3 : g 3 = nI day) (h4 : g 4 = MM 15 day) (h5 : g 5 = if MM 16 day = -1 then 0 else 1) : ∀ x, x ≤ 5 → fn_vh MM h g x = fn_V MM h day x := by
  intro x hx
  rcases (show x = 0 ∨ x = 1 ∨ x = 2 ∨ x = 3 ∨ x = 4 ∨ x = 5 by omega) with e | e | e | e | e | e <;> subst e
  · rfl
  · rfl
  · rfl
  · exact h3
  · exact h4
  · exact h5
/-- the class's numbers for a household change alone -/
theorem fn_I.val {n np t : Nat} {M MM : Nat → Nat → Int32} (h : fn_I n np t M MM) {g : Nat → Int32} (hg : g 6 = 1) : fn_I n np t (fn_rw M 27 g) MM :=
  ⟨h.court, h.land, h.cal, h.now, h.past, h.ldg, h.told, h.plz, h.tap, h.que, h.flt, hg, h.rul.2⟩
theorem ft_118 {n np t : Nat} {M MM : Nat → Nat → Int32} (h : fn_I n np t M MM) (a b c : Int32) (hc : c = 0 ∨ c = 1) : fn_S 118 181 [.int a, .int b, .int c] M MM := by
  intro al am kl N
  obtain ⟨k0, k, k1, k2, k3, k4⟩ := h.rul
  obtain ⟨⟨e1, e2, e3⟩, e4, e5⟩ := h.court
  rw [show ai_ent (ai_mx 118) [.ref 0, .int a, .int b, .int c] = [.ref 0, .int a, .int b, .int c] from rfl, show ai_ent (ai_mx 181) [.ref 0, .int a, .int b, .int c] = [.ref 0, .int a, .int b, .int c] from rfl]
  rw [bq_118_0, fw_7, fb_s, bq_118_1, bq_181_0, fw_150, fb_s, bq_181_1, e2, show (ai_up MM 0 0 0) 0 4 = nI n from e3]
  by_cases ha : 0 ≤ a ∧ a < nI n
  · rw [if_neg (fun q => fn_b0.mp q ha), if_neg (fun q => fn_b0.mp q ha), fw_141, fb_s, bq_118_2, fw_152, fb_s, bq_181_2]
    by_cases hb : 0 ≤ b ∧ b < 200
    · obtain ⟨p, p1, p2⟩ := fi_of (by omega) ha
      obtain ⟨y, y1, y2⟩ := fi_of (n := 200) (by omega) hb
      have ha' : 0 ≤ nI p ∧ nI p < M 4 0 := by rw [e2, ← p2]; exact ha
      rw [if_neg (fun q => fn_b0.mp q hb), if_neg (fun q => fn_b0.mp q hb), p2, y2, fw_180 (M := M) (show p < 8 by omega) y1 k1 (show (ai_up MM 0 0 0) 0 41 = nI k from k3) k4, fb_s, bq_181_3, bq_181_5, bq_118_4, bq_80_0, fw_79 (MM := MM) k1 k2 (fun o ho => (k4 o ho).1), fb_s, bq_80_1]
      rcases fc_in MM k y with e | ⟨o, o1, o2⟩
      · rw [e, if_pos (by decide), bq_80_3, fb_s, bq_118_5, show fn_et (ai_up MM 0 0 0) k p y c = 0 from if_pos (by rw [show fn_fc (ai_up MM 0 0 0) k y = fn_fc MM k y from rfl, e]; decide)]
        exact ⟨_, n, np, t, _, _, rfl, rfl, ⟨rfl, rfl⟩, h.z⟩
      · obtain ⟨-, m, m1, m2, m3, m4⟩ := k4 o o1
        have c1 := e4 p (by omega)
        have c2 := h.cal.2 y y1
        have w1 := fw_82 (d := 196) (al := al) (kl := kl) (M := M) (MM := MM) (g := M 27) y1 c2.1 c2.2.1
        have w2 := fw_83 (d := 197) (al := al) (kl := kl) (M := M) (MM := MM) (g := fn_vd MM y (M 27)) e1 (show p < n by omega) e2 c1.1 c1.2.1 c1.2.2.1
        have w3 := fw_84 (d := 196) (al := al) (kl := kl) (kd := c) (M := fn_rw M 27 (fn_vh MM p (fn_vd MM y (M 27)))) (MM := MM) (V := fn_V MM p y) (v3 := ai_un) (v4 := ai_un) (k := k) k2 k1 o1 m1 m2 m3 (fn_vv (h := p) (day := y) (g := fn_vd MM y (M 27)) rfl rfl rfl) (show M 27 6 = 1 from k0) m4
        rw [fn_rw_id] at w1
        rw [o2, if_neg (nI_pos (by omega)), fw_7, fb_s, bq_80_2, if_neg (fun q => fn_b0.mp q ha'), bq_80_4, w1, fb_n, bq_80_5, w2, fb_n, bq_80_6]
        have fin : fn_et (ai_up MM 0 0 0) k p y c = fn_ea MM (fn_V MM p y) c o := by
          show fn_et MM k p y c = _
          unfold fn_et
          rw [o2, if_neg (nI_pos (by omega)), nI_clamp (by omega)]
        rw [fin]
        rcases hc with hc | hc
        · subst hc
          rw [if_pos rfl, bq_80_7, bq_80_8, w3, fb_s, bq_80_9, fb_s, bq_118_5]
          exact ⟨_, n, np, t, _, _, rfl, rfl, ⟨rfl, rfl⟩, (h.val (g := fn_vh MM p (fn_vd MM y (M 27))) k0).z⟩
        · subst hc
          rw [if_neg (by decide), bq_80_8, w3, fb_s, bq_80_9, fb_s, bq_118_5]
          exact ⟨_, n, np, t, _, _, rfl, rfl, ⟨rfl, rfl⟩, (h.val (g := fn_vh MM p (fn_vd MM y (M 27))) k0).z⟩
    · rw [if_pos (fn_b0.mpr hb), if_pos (fn_b0.mpr hb), bq_118_3, bq_181_4, bq_181_5]
      exact ⟨_, n, np, t, _, _, rfl, rfl, ⟨rfl, rfl⟩, h.z⟩
  · rw [if_pos (fn_b0.mpr ha), if_pos (fn_b0.mpr ha), bq_118_3, bq_181_4, bq_181_5]
    exact ⟨_, n, np, t, _, _, rfl, rfl, ⟨rfl, rfl⟩, h.z⟩
