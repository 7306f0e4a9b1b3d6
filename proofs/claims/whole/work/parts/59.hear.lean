/-! count, plea, hear -/
theorem fl_208 {d : Nat} {al : Nat × Nat} {M : Nat → Nat → Int32} {N : Nat → Nat → Int64} {k : Nat} (hk : k ≤ 60) (h7 : M 0 7 = nI k) : ∀ (m j : Nat) (v1 : Value), j + m = k → ai_run d 208 6 [.ref 0, v1, .int (nI (fn_ct (fun q => decide (M 21 q = -2)) j)), .int (nI j)] [] (hM al M N) = some (.inl (some (.int (nI (fn_ct (fun q => decide (M 21 q = -2)) k)))), hM al M N)
  | 0, j, v1, h => by
    have hj : j = k := by omega
    subst hj
    rw [bq_208_6, h7, if_pos Int32.le_rfl, bq_208_9]
  | m + 1, j, v1, h => by
    rw [bq_208_6, h7, if_neg (nI_ge (by omega) (by omega)), fi_in (by omega), decide_eq_true (by omega), cond_true, nI_clamp (by omega)]
    by_cases c1 : M 21 j = -2
    · have e : fn_ct (fun q => decide (M 21 q = -2)) j + 1 = fn_ct (fun q => decide (M 21 q = -2)) (j + 1) := by
        show _ = fn_ct _ j + (if decide (M 21 j = -2) = true then 1 else 0)
        rw [decide_eq_true c1]; rfl
      rw [if_pos c1, bq_208_8, nI_1, nI_1, e, fl_208 hk h7 m (j + 1) _ (by omega)]
    · have e : fn_ct (fun q => decide (M 21 q = -2)) j = fn_ct (fun q => decide (M 21 q = -2)) (j + 1) := by
        show _ = fn_ct _ j + (if decide (M 21 j = -2) = true then 1 else 0)
        rw [decide_eq_false c1]; rfl
      rw [if_neg c1, bq_208_7, bq_208_8, nI_1, show ∀ x : Int32, x + 0 = x from Int32.add_zero, e, fl_208 hk h7 m (j + 1) _ (by omega)]
theorem ft_134 {n np t : Nat} {M MM : Nat → Nat → Int32} (h : fn_I n np t M MM) (x : Int32) : fn_S 134 208 [.int x] M MM := by
  intro al am kl N
  obtain ⟨k, w, W, k1, k2, k3, k4, k5, k6, k7, k8⟩ := h.que
  rw [show ai_ent (ai_mx 134) [.ref 0, .int x] = [.ref 0, .int x] from rfl, show ai_ent (ai_mx 208) [.ref 0, .int x] = [.ref 0, .int x, ai_un, ai_un] from rfl]
  rw [bq_134_0, bq_208_0]
  by_cases hs : x.toInt < (0 : Int) ∨ (7 : Int) < x.toInt
  · rw [if_pos hs, if_pos hs, bq_134_9, bq_208_13]
    exact ⟨_, n, np, t, _, _, rfl, rfl, ⟨rfl, rfl⟩, h.z⟩
  · rw [if_neg hs, if_neg hs]
    rcases (show x.toInt = 0 ∨ x.toInt = 1 ∨ x.toInt = 2 ∨ x.toInt = 3 ∨ x.toInt = 4 ∨ x.toInt = 5 ∨ x.toInt = 6 ∨ x.toInt = 7 by omega) with hk | hk | hk | hk | hk | hk | hk | hk
    · rw [hk, show ([1, 2, 3, 4, 5, 6, 7, 8] : List Nat).getD ((0 : Int) - 0).toNat 0 = 1 from rfl, show ([1, 2, 3, 4, 5, 10, 11, 12] : List Nat).getD ((0 : Int) - 0).toNat 0 = 1 from rfl, bq_134_1, bq_208_1, show (ai_up MM 0 0 0) 0 4 = M 4 0 from h.court.1.2.2.trans h.court.1.2.1.symm]
      exact ⟨_, n, np, t, _, _, rfl, rfl, ⟨rfl, rfl⟩, h.z⟩
    · rw [hk, show ([1, 2, 3, 4, 5, 6, 7, 8] : List Nat).getD ((1 : Int) - 0).toNat 0 = 2 from rfl, show ([1, 2, 3, 4, 5, 10, 11, 12] : List Nat).getD ((1 : Int) - 0).toNat 0 = 2 from rfl, bq_134_2, bq_208_2, show (ai_up MM 0 0 0) 0 5 = M 9 0 from h.land.1.2.2.trans h.land.1.2.1.symm]
      exact ⟨_, n, np, t, _, _, rfl, rfl, ⟨rfl, rfl⟩, h.z⟩
    · obtain ⟨-, q, -, q2, q3, -⟩ := h.rul
      rw [hk, show ([1, 2, 3, 4, 5, 6, 7, 8] : List Nat).getD ((2 : Int) - 0).toNat 0 = 3 from rfl, show ([1, 2, 3, 4, 5, 10, 11, 12] : List Nat).getD ((2 : Int) - 0).toNat 0 = 3 from rfl, bq_134_3, bq_208_3, show (ai_up MM 0 0 0) 0 41 = M 23 2 from q3.trans q2.symm]
      exact ⟨_, n, np, t, _, _, rfl, rfl, ⟨rfl, rfl⟩, h.z⟩
    · obtain ⟨q, -, q2, q3, -⟩ := h.cal.1
      rw [hk, show ([1, 2, 3, 4, 5, 6, 7, 8] : List Nat).getD ((3 : Int) - 0).toNat 0 = 4 from rfl, show ([1, 2, 3, 4, 5, 10, 11, 12] : List Nat).getD ((3 : Int) - 0).toNat 0 = 4 from rfl, bq_134_4, bq_208_4, show (ai_up MM 0 0 0) 0 6 = M 20 2 from q3.trans q2.symm]
      exact ⟨_, n, np, t, _, _, rfl, rfl, ⟨rfl, rfl⟩, h.z⟩
    · have ho : fn_ord k w W (fn_ug (ai_up MM 0 0 0)) ((ai_up MM 0 0 0) 21) := k8.cg k6
      have hc : fn_ct (fun q => decide ((ai_up MM 0 0 0) 21 q = -2)) k = w := fn_ct_W (W := W) w _ (fun a ha => (ho.1 a ha).1) (fun a b ha hb => ho.inj ha hb) (fun q hq => by
        rw [decide_eq_true_iff]
        exact ⟨fun e => ho.2.1 q hq e, fun ⟨a, a1, a2⟩ => a2 ▸ (ho.1 a a1).2⟩)
      have l := fl_208 (d := 200) (al := am) (N := N) (M := ai_up MM 0 0 0) k2 k5 k 0 ai_un (by omega)
      rw [hc] at l
      rw [hk, show ([1, 2, 3, 4, 5, 6, 7, 8] : List Nat).getD ((4 : Int) - 0).toNat 0 = 5 from rfl, show ([1, 2, 3, 4, 5, 10, 11, 12] : List Nat).getD ((4 : Int) - 0).toNat 0 = 5 from rfl, bq_134_5, bq_208_5, k4]
      exact ⟨_, n, np, t, _, _, rfl, l, ⟨rfl, rfl⟩, h.z⟩
    · rw [hk, show ([1, 2, 3, 4, 5, 6, 7, 8] : List Nat).getD ((5 : Int) - 0).toNat 0 = 6 from rfl, show ([1, 2, 3, 4, 5, 10, 11, 12] : List Nat).getD ((5 : Int) - 0).toNat 0 = 10 from rfl, bq_134_6, bq_208_10, show (ai_up MM 0 0 0) 0 8 = M 0 12 from h.now.2.2.1.trans h.now.2.1.symm]
      exact ⟨_, n, np, t, _, _, rfl, rfl, ⟨rfl, rfl⟩, h.z⟩
    · rw [hk, show ([1, 2, 3, 4, 5, 6, 7, 8] : List Nat).getD ((6 : Int) - 0).toNat 0 = 7 from rfl, show ([1, 2, 3, 4, 5, 10, 11, 12] : List Nat).getD ((6 : Int) - 0).toNat 0 = 11 from rfl, bq_134_7, bq_208_11, show (ai_up MM 0 0 0) 0 9 = M 0 13 from h.now.2.2.2.2.1.symm]
      exact ⟨_, n, np, t, _, _, rfl, rfl, ⟨rfl, rfl⟩, h.z⟩
    · obtain ⟨q, -, q2, q3, -⟩ := h.tap
      rw [hk, show ([1, 2, 3, 4, 5, 6, 7, 8] : List Nat).getD ((7 : Int) - 0).toNat 0 = 8 from rfl, show ([1, 2, 3, 4, 5, 10, 11, 12] : List Nat).getD ((7 : Int) - 0).toNat 0 = 12 from rfl, bq_134_8, bq_208_12, show (ai_up MM 0 0 0) 0 33 = M 28 0 from q3.trans q2.symm]
      exact ⟨_, n, np, t, _, _, rfl, rfl, ⟨rfl, rfl⟩, h.z⟩
/-! a plea more -/
theorem fi_dec (i : Nat) : nI (i + 1) + (-1) = nI i := (Int32.sub_eq_add_neg _ _).symm.trans (nI_pred i)
theorem fl_42 {d : Nat} {al : Nat × Nat} {kl k w : Nat} {M : Nat → Nat → Int32} {W : Nat → Nat} (hk : k < 60) (hw : w ≤ k) (h0 : M 51 0 = nI k) (hW : ∀ a, a < w → W a < k) : ∀ (i : Nat) (g : Nat → Int32) (v1 v2 : Value), i ≤ w → (∀ a, a < i → g a = nI (W a)) → ∃ (p : Nat) (g' : Nat → Int32), p ≤ i ∧ ai_run d 42 2 [.ref 51, v1, v2, .int (nI i)] [] (hC al kl (fn_rw M 54 g)) = ai_run d 42 3 [.ref 51, ai_un, ai_un, .int (nI p)] [] (hC al kl (fn_rw M 54 g')) ∧ (∀ a, a < p → g' a = g a) ∧ (∀ a, p ≤ a → a < i → g' (a + 1) = g a) ∧ (∀ a, i < a → g' a = g a) ∧ (∀ a, p ≤ a → a < i → M 52 (W a) < M 52 k) ∧ (0 < p → M 52 k ≤ M 52 (W (p - 1)))
  | 0, g, v1, v2, _, _ => ⟨0, g, Nat.le_refl _, by rw [bq_42_2, if_pos (show nI 0 ≤ 0 by decide)], fun a ha => rfl, fun a _ ha => absurd ha (Nat.not_lt_zero _), fun a _ => rfl, fun a _ ha => absurd ha (Nat.not_lt_zero _), fun ha => absurd ha (Nat.lt_irrefl _)⟩
  | i + 1, g, v1, v2, hi, hg => by
    have hWi := hW i (by omega)
    have e52 : fn_rw M 54 g 52 = M 52 := rfl
    have e54 : fn_rw M 54 g 54 = g := rfl
    have e51 : fn_rw M 54 g 51 0 = nI k := h0
    rw [bq_42_2, if_neg (nI_nle (by omega) (by omega)), nI_pred, fi_in (by omega), decide_eq_true (by omega), cond_true, nI_clamp (by omega), e54, hg i (by omega), e51, e52, fi_in (by omega), decide_eq_true (by omega), cond_true, fi_in (by omega), decide_eq_true (by omega), cond_true, nI_clamp (by omega), nI_clamp (by omega)]
    by_cases c : M 52 k ≤ M 52 (W i)
    · rw [if_pos c]
      exact ⟨i + 1, g, Nat.le_refl _, rfl, fun a _ => rfl, fun a h1 h2 => absurd h1 (by omega), fun a _ => rfl, fun a h1 h2 => absurd h1 (by omega), fun _ => c⟩
    · rw [if_neg c, cond_true, fi_in (by omega), decide_eq_true (by omega), cond_true, nI_clamp (by omega), fi_dec, fn_rw_up]
      obtain ⟨p, g', p1, p2, p3, p4, p5, p6, p7⟩ := fl_42 (d := d) (al := al) (kl := kl) hk hw h0 hW i (upd g (i + 1) (nI (W i))) ai_un ai_un (by omega) (fun a ha => by rw [pk_un (by omega)]; exact hg a (by omega))
      refine ⟨p, g', by omega, p2, fun a ha => ?_, fun a h1 h2 => ?_, fun a ha => ?_, fun a h1 h2 => ?_, p7⟩
      · rw [p3 a ha, pk_un (by omega)]
      · by_cases hai : a = i
        · subst hai
          rw [p5 (a + 1) (by omega), pk_us, hg a (by omega)]
        · rw [p4 a h1 (by omega), pk_un (by omega)]
      · rw [p5 a (by omega), pk_un (by omega)]
      · by_cases hai : a = i
        · subst hai
          exact Int32.not_le.mp c
        · exact p6 a h1 (by omega)
/-- where the new one stands -/
def fn_ins (W : Nat → Nat) (p k : Nat) (a : Nat) : Nat := if a < p then W a else if a = p then k else W (a - 1)
theorem fn_bef.le {u : Nat → Int32} {a b : Nat} (h : fn_bef u a b) : u b ≤ u a := by
  rcases h with h | ⟨e, -⟩
  · exact Int32.le_of_lt h
  · rw [e]; exact Int32.le_rfl
theorem fn_ord.ins {k w p : Nat} {W : Nat → Nat} {u hd : Nat → Int32} {v : Int32} (h : fn_ord k w W u hd) (hp : p ≤ w) (h1 : ∀ a, p ≤ a → a < w → u (W a) < v) (h2 : 0 < p → v ≤ u (W (p - 1))) : fn_ord (k + 1) (w + 1) (fn_ins W p k) (upd u k v) (upd hd k (-2)) := by
  have hlt : ∀ a, a < w → W a < k := fun a ha => (h.1 a ha).1
  have hu : ∀ a, a < w → upd u k v (W a) = u (W a) := fun a ha => pk_un (Nat.ne_of_lt (hlt a ha))
  have hh : ∀ a, a < w → upd hd k (-2) (W a) = -2 := fun a ha => by rw [pk_un (Nat.ne_of_lt (hlt a ha))]; exact (h.1 a ha).2
  have hb : ∀ a b, a < b → b < w → fn_bef (upd u k v) (W a) (W b) := fun a b hab hb => by
    have := h.2.2 a b hab hb
    unfold fn_bef at this ⊢
    rw [hu a (by omega), hu b hb]
    exact this
  have hge : ∀ a, a < p → v ≤ u (W a) := fun a ha => by
    have h3 := h2 (by omega)
    by_cases hap : a = p - 1
    · rw [hap]; exact h3
    · exact Int32.le_trans h3 (h.2.2 a (p - 1) (by omega) (by omega)).le
  refine ⟨fun i hi => ?_, fun j hj he => ?_, fun a b hab hbw => ?_⟩
  · unfold fn_ins
    by_cases c1 : i < p
    · rw [if_pos c1]; exact ⟨Nat.lt_succ_of_lt (hlt i (by omega)), hh i (by omega)⟩
    · rw [if_neg c1]
      by_cases c2 : i = p
      · rw [if_pos c2]; exact ⟨Nat.lt_succ_self _, pk_us⟩
      · rw [if_neg c2]; exact ⟨Nat.lt_succ_of_lt (hlt _ (by omega)), hh _ (by omega)⟩
  · by_cases hjk : j = k
    · refine ⟨p, by omega, ?_⟩
      unfold fn_ins
      rw [if_neg (by omega), if_pos rfl, hjk]
    · rw [pk_un hjk] at he
      obtain ⟨i, i1, i2⟩ := h.2.1 j (by omega) he
      by_cases c : i < p
      · refine ⟨i, by omega, ?_⟩
        unfold fn_ins
        rw [if_pos c, i2]
      · refine ⟨i + 1, by omega, ?_⟩
        unfold fn_ins
        rw [if_neg (by omega), if_neg (by omega), Nat.add_sub_cancel, i2]
  · unfold fn_ins
    by_cases a1 : a < p
    · rw [if_pos a1]
      by_cases b1 : b < p
      · rw [if_pos b1]; exact hb a b hab (by omega)
      · rw [if_neg b1]
        by_cases b2 : b = p
        · rw [if_pos b2]
          have hv := hge a a1
          unfold fn_bef
          rw [pk_us, hu a (by omega)]
          by_cases e : u (W a) = v
          · exact Or.inr ⟨e, hlt a (by omega)⟩
          · exact Or.inl (Int32.lt_of_le_of_ne hv (fun q => e q.symm))
        · rw [if_neg b2]; exact hb a (b - 1) (by omega) (by omega)
    · rw [if_neg a1, if_neg (show ¬ b < p by omega), if_neg (show ¬ b = p by omega)]
      by_cases a2 : a = p
      · rw [if_pos a2]
        unfold fn_bef
        rw [pk_us, hu (b - 1) (by omega)]
        exact Or.inl (h1 (b - 1) (by omega) (by omega))
      · rw [if_neg a2]; exact hb (a - 1) (b - 1) (by omega) (by omega)
set_option maxHeartbeats 2000000 in
theorem ft_130 {n np t : Nat} {M MM : Nat → Nat → Int32} (h : fn_I n np t M MM) (x : Int32) : fn_S 130 203 [.int x] M MM := by
  intro al am kl N
  obtain ⟨k, w, W, k1, k2, k3, k4, k5, k6, k7, k8⟩ := h.que
  obtain ⟨n1, n2, n3, n4, n5, n6⟩ := h.now
  rw [show ai_ent (ai_mx 130) [.ref 0, .int x] = [.ref 0, .int x] from rfl, show ai_ent (ai_mx 203) [.ref 0, .int x] = [.ref 0, .int x] from rfl]
  rw [bq_130_0, fw_142, fb_s, bq_130_1, bq_203_0, fw_148, fb_s, bq_203_1]
  by_cases hx : 0 ≤ x ∧ x ≤ 99
  · rw [if_neg (fun q => fn_b0.mp q hx), if_neg (fun q => fn_b0.mp q hx), bq_130_3, bq_203_3, k3, show (ai_up MM 0 0 0) 0 7 = nI k from k5]
    by_cases hk : k < 60
    · have hk6 : ¬ nI k = 60 := fun q => absurd ((nI_eq (b := 60) (by omega) (by omega)).mp q) (by omega)
      rw [if_pos (fj_gt (c := 60) (n := 60) rfl hk (by omega)), if_neg hk6, bq_130_5, bq_203_5, show (ai_up MM 0 0 0) 0 7 = nI k from k5, fi_in (by omega), decide_eq_true hk, cond_true, cond_true, cond_true, nI_clamp (by omega), bq_146_0, fb_s, bq_203_6, bq_42_0, k3, if_pos (fj_gt (c := 60) (n := 60) rfl hk (by omega)), bq_42_1, k3, fi_in (by omega), decide_eq_true hk, cond_true, cond_true, nI_clamp (by omega), k4, n2, show (ai_up MM 0 0 0) 0 8 = nI t from n3, nI_1, nI_pred]
      obtain ⟨p, g', p1, p2, p3, p4, p5, p6, p7⟩ := fl_42 (d := 199) (al := al) (kl := kl) (k := k) (w := w) (M := ai_up (ai_up M 52 k (x - nI t)) 53 k (-2)) (W := W) hk k1 k3 (fun a ha => (k8.1 a ha).1) w (M 54) (.int x) (.int (nI t)) (Nat.le_refl _) k7
      rw [show fn_rw (ai_up (ai_up M 52 k (x - nI t)) 53 k (-2)) 54 (M 54) = ai_up (ai_up M 52 k (x - nI t)) 53 k (-2) from fn_rw_id (M := ai_up (ai_up M 52 k (x - nI t)) 53 k (-2)) (k := 54)] at p2
      have e52 : ∀ j, (ai_up (ai_up M 52 k (x - nI t)) 53 k (-2)) 52 j = upd (M 52) k (x - nI t) j := fun j => rfl
      have hlt : ∀ a, a < w → W a < k := fun a ha => (k8.1 a ha).1
      have ho := k8.ins (p := p) (v := x - nI t) p1 (fun a h1 h2 => by
        have := p6 a h1 h2
        rw [e52, e52, pk_us, pk_un (Nat.ne_of_lt (hlt a h2))] at this
        exact this) (fun h0 => by
        have := p7 h0
        rw [e52, e52, pk_us, pk_un (Nat.ne_of_lt (hlt _ (by omega)))] at this
        exact this)
      rw [p2, bq_42_3, fi_in (by omega), decide_eq_true (by omega), cond_true, nI_clamp (by omega), fb_s, bq_130_6, bq_137_0, fb_s, bq_130_7]
      rw [show (fn_rw (ai_up (ai_up M 52 k (x - nI t)) 53 k (-2)) 54 g') 51 0 = nI k from k3, show (fn_rw (ai_up (ai_up M 52 k (x - nI t)) 53 k (-2)) 54 g') 51 1 = nI w from k4, nI_1, nI_1, nI_pred]
      refine ⟨_, n, np, t, _, _, rfl, rfl, ⟨rfl, rfl⟩, ⟨h.court, h.land, h.cal, ⟨n1, n2, n3, rfl, n5, n6⟩, h.past, h.ldg, h.told, ⟨k + 1, by omega, rfl, rfl, ?_⟩, h.tap, ⟨k + 1, w + 1, fn_ins W p k, by omega, by omega, rfl, rfl, rfl, ?_, ?_, ho⟩, h.flt, h.rul⟩⟩
      · show ∀ j, j < k + 1 → upd (M 53) k (-2) j = upd (MM 21) k (-2) j
        intro j hj
        by_cases hjk : j = k
        · rw [hjk, pk_us, pk_us]
        · rw [pk_un hjk, pk_un hjk]; exact (k6 j (by omega)).2
      · show ∀ j, j < k + 1 → upd (M 52) k (x - nI t) j = upd (MM 19) k x j - upd (MM 20) k (nI t) j ∧ upd (M 53) k (-2) j = upd (MM 21) k (-2) j
        intro j hj
        by_cases hjk : j = k
        · rw [hjk, pk_us, pk_us, pk_us, pk_us, pk_us]; exact ⟨rfl, rfl⟩
        · rw [pk_un hjk, pk_un hjk, pk_un hjk, pk_un hjk, pk_un hjk]; exact k6 j (by omega)
      · show ∀ i, i < w + 1 → upd g' p (nI k) i = nI (fn_ins W p k i)
        intro i hi
        unfold fn_ins
        by_cases c1 : i < p
        · rw [if_pos c1, pk_un (by omega), p3 i c1, k7 i (by omega)]
        · rw [if_neg c1]
          by_cases c2 : i = p
          · rw [if_pos c2, c2, pk_us]
          · have e := p4 (i - 1) (by omega) (by omega)
            rw [show i - 1 + 1 = i by omega] at e
            rw [if_neg c2, pk_un c2, e, k7 (i - 1) (by omega)]
    · have hk6 : k = 60 := by omega
      subst hk6
      rw [if_neg (by decide), if_pos (show nI 60 = 60 from rfl), bq_136_0, fb_s, bq_130_4, bq_144_0, fb_s, bq_203_4]
      exact ⟨_, n, np, t, _, _, rfl, rfl, ⟨rfl, rfl⟩, h.no 3⟩
  · rw [if_pos (fn_b0.mpr hx), if_pos (fn_b0.mpr hx), bq_136_0, fb_s, bq_130_2, bq_144_0, fb_s, bq_203_2]
    exact ⟨_, n, np, t, _, _, rfl, rfl, ⟨rfl, rfl⟩, h.no 2⟩
/-! pleas heard -/
/-- those in turn i, i + 1 .. (m of them) are heard -/
def fn_hr (W : Nat → Nat) (v : Int32) : (Nat → Int32) → Nat → Nat → Nat → Int32
  | f, _, 0 => f
  | f, i, m + 1 => fn_hr W v (upd f (W i) v) (i + 1) m
theorem fn_hr_cg {W : Nat → Nat} {v : Int32} {k : Nat} : ∀ (m i : Nat) (f g : Nat → Int32), (∀ j, j < k → f j = g j) → ∀ j, j < k → fn_hr W v f i m j = fn_hr W v g i m j
  | 0, _, _, _, h, j, hj => h j hj
  | m + 1, i, f, g, h, j, hj => fn_hr_cg m (i + 1) _ _ (fun a ha => by
    by_cases e : a = W i
    · rw [e, pk_us, pk_us]
    · rw [pk_un e, pk_un e]; exact h a ha) j hj
theorem fn_ord.one {k w i : Nat} {W : Nat → Nat} {u f : Nat → Int32} {v : Int32} (hv : v ≠ -2) (hi : i < w) (h : fn_ord k (w - i) (fun a => W (i + a)) u f) : fn_ord k (w - (i + 1)) (fun a => W (i + 1 + a)) u (upd f (W i) v) := by
  have e : ∀ a, W (i + 1 + a) = W (i + (a + 1)) := fun a => by rw [show i + 1 + a = i + (a + 1) by omega]
  refine ⟨fun a ha => ?_, fun j hj he => ?_, fun a b hab hb => ?_⟩
  · have h1 := h.1 (a + 1) (by omega)
    have h2 := h.inj (a := 0) (b := a + 1) (by omega) (by omega)
    show W (i + 1 + a) < k ∧ upd f (W i) v (W (i + 1 + a)) = -2
    rw [e a, pk_un (show W (i + (a + 1)) ≠ W i from fun q => h2 q.symm)]
    exact h1
  · have hne : j ≠ W i := fun q => by rw [q, pk_us] at he; exact hv he
    rw [pk_un hne] at he
    obtain ⟨a, a1, a2⟩ := h.2.1 j hj he
    cases a with
    | zero => exact absurd a2.symm hne
    | succ a => exact ⟨a, by omega, (e a).trans a2⟩
  · show fn_bef u (W (i + 1 + a)) (W (i + 1 + b))
    rw [e a, e b]
    exact h.2.2 (a + 1) (b + 1) (by omega) (by omega)
theorem fn_ord.hear {k w : Nat} {W : Nat → Nat} {u : Nat → Int32} {v : Int32} (hv : v ≠ -2) : ∀ (m i : Nat) (f : Nat → Int32), i + m ≤ w → fn_ord k (w - i) (fun a => W (i + a)) u f → fn_ord k (w - (i + m)) (fun a => W (i + m + a)) u (fn_hr W v f i m)
  | 0, i, f, _, h => h
  | m + 1, i, f, hm, h => by
    have := fn_ord.hear hv m (i + 1) (upd f (W i) v) (by omega) (h.one hv (by omega))
    rw [show i + 1 + m = i + (m + 1) by omega] at this
    exact this
theorem fl_43a {d : Nat} {al : Nat × Nat} {kl w : Nat} {M : Nat → Nat → Int32} {W : Nat → Nat} {v : Int32} (hw : w ≤ 60) (hW : ∀ a, a < w → M 54 a = nI (W a) ∧ W a < 60) : ∀ (m i : Nat) (f : Nat → Int32) (v1 : Value), i + m ≤ w → ai_run d 43 2 [.ref 51, v1, .int v, .int (nI (i + m)), .int (nI i)] [] (hC al kl (fn_rw M 53 f)) = ai_run d 43 3 [.ref 51, ai_un, .int v, .int (nI (i + m)), .int (nI (i + m))] [] (hC al kl (fn_rw M 53 (fn_hr W v f i m)))
  | 0, i, f, v1, h => by
    rw [bq_43_2, Nat.add_zero, if_pos Int32.le_rfl]
    rfl
  | m + 1, i, f, v1, h => by
    have e := hW i (by omega)
    rw [bq_43_2, if_neg (nI_ge (by omega) (by omega)), fi_in (by omega), decide_eq_true (by omega), cond_true, nI_clamp (by omega), show fn_rw M 53 f 54 i = nI (W i) from e.1, fi_in (by omega), decide_eq_true e.2, cond_true, nI_clamp (by omega), nI_1, fn_rw_up, show i + (m + 1) = i + 1 + m by omega, fl_43a hw hW m (i + 1) _ _ (by omega)]
    rfl
theorem fl_43b {d : Nat} {al : Nat × Nat} {kl w c : Nat} {M : Nat → Nat → Int32} {g0 : Nat → Int32} (hw : w ≤ 60) (h1 : M 51 1 = nI w) : ∀ (m x : Nat) (g : Nat → Int32) (v1 v2 : Value), x + m = w → c ≤ x → (∀ a, a + c < x → g a = g0 (a + c)) → (∀ a, x ≤ a + c → g a = g0 a) → ∃ g' : Nat → Int32, ai_run d 43 4 [.ref 51, v1, v2, .int (nI c), .int (nI x)] [] (hC al kl (fn_rw M 54 g)) = ai_run d 43 5 [.ref 51, ai_un, ai_un, .int (nI c), .int (nI w)] [] (hC al kl (fn_rw M 54 g')) ∧ ∀ a, a + c < w → g' a = g0 (a + c)
  | 0, x, g, v1, v2, hm, hc, ha, hb => by
    have hx : x = w := by omega
    subst hx
    exact ⟨g, by rw [bq_43_4, show (fn_rw M 54 g) 51 1 = nI x from h1, if_pos Int32.le_rfl], ha⟩
  | m + 1, x, g, v1, v2, hm, hc, ha, hb => by
    have es : nI x - nI c = nI (x - c) := by
      have : nI x = nI (x - c) + nI c := by rw [nI_add, Nat.sub_add_cancel hc]
      rw [this, Int32.add_sub_cancel]
    rw [bq_43_4, show (fn_rw M 54 g) 51 1 = nI w from h1, if_neg (nI_ge (by omega) (by omega)), fi_in (by omega), decide_eq_true (by omega), cond_true, es, fi_in (by omega), decide_eq_true (by omega), cond_true, nI_clamp (by omega), nI_clamp (by omega), nI_1, fn_rw_up, show (fn_rw M 54 g) 54 x = g0 x from hb x (by omega)]
    exact fl_43b hw h1 m (x + 1) _ _ _ (by omega) (by omega) (fun a h2 => by
      by_cases e : a = x - c
      · rw [e, pk_us, Nat.sub_add_cancel hc]
      · rw [pk_un e]; exact ha a (by omega)) (fun a h2 => by rw [pk_un (by omega)]; exact hb a (by omega))
theorem fl_205 {d : Nat} {al : Nat × Nat} {M : Nat → Nat → Int32} {N : Nat → Nat → Int64} {k w c m : Nat} {W : Nat → Nat} {v : Int32} (hk : k ≤ 60) (hw : w ≤ k) (hm : m < 60) (h7 : M 0 7 = nI k) (h8 : M 0 8 = v) (hv : v ≠ -2) (hc : c = min m w) : ∀ (r i : Nat) (f : Nat → Int32), i + r = c → fn_ord k (w - i) (fun a => W (i + a)) (fn_ug M) f → ai_run (d + 1) 205 5 [.ref 0, .int (nI m), .int (nI i), .int (if i < w then nI (W i) else -1)] [] (hM al (fn_rw M 21 f) N) = some (.inl (some (.int (nI c))), hM al (fn_noM (fn_rw M 21 (fn_hr W v f i r)) 0) N)
  | 0, i, f, h, ho => by
    have hi : i = c := by omega
    have e : ai_run (d + 1) 205 5 [.ref 0, .int (nI m), .int (nI i), .int (if i < w then nI (W i) else -1)] [] (hM al (fn_rw M 21 f) N) = ai_run (d + 1) 205 7 [.ref 0, .int (nI m), .int (nI i), .int (if i < w then nI (W i) else -1)] [] (hM al (fn_rw M 21 f) N) := by
      rw [bq_205_5]
      by_cases hmi : m ≤ i
      · rw [if_pos (nI_le hmi (by omega))]
      · rw [if_neg (nI_ge (by omega) (by omega)), if_pos (if_neg (by omega))]
    rw [e, bq_205_7, bq_146_0, fb_s, bq_205_8, hi]
    rfl
  | r + 1, i, f, h, ho => by
    have hiw : i < w := by omega
    have hWk : W i < k := (ho.1 0 (by omega)).1
    have ho' := ho.one hv hiw
    have hw' := fw_204 (d := d) (al := al) (N := N) (M := fn_rw M 21 (upd f (W i) v)) (x := 0) (v2 := ai_un) (v3 := ai_un) (v4 := ai_un) (v5 := ai_un) (v6 := ai_un) (w := w - (i + 1)) (W := fun a => W (i + 1 + a)) hk (by omega) h7 ho'
    have ev : (if (0 : Int32) ≤ 0 ∧ (0 : Int32) < nI (w - (i + 1)) then nI ((fun a => W (i + 1 + a)) (0 : Int32).toNatClampNeg) else -1) = (if i + 1 < w then nI (W (i + 1)) else -1) := by
      by_cases g : i + 1 < w
      · rw [if_pos g, if_pos ⟨Int32.le_rfl, nI_lt (a := 0) (by omega) (by omega)⟩]
        rfl
      · rw [if_neg g, if_neg (fun q => absurd q.2 (nI_nlt (b := w - (i + 1)) (a := 0) (by omega) (by omega)))]
    rw [ev] at hw'
    rw [bq_205_5, if_neg (nI_ge (by omega) (by omega)), if_pos hiw, if_neg (fi_m1 (by omega)), fi_in (by omega), decide_eq_true (by omega), cond_true, nI_clamp (by omega), fn_rw_up, show (fn_rw M 21 f) 0 8 = v from h8, hw', fb_s, bq_205_6, nI_1, fl_205 hk hw hm h7 h8 hv hc r (i + 1) _ (by omega) ho']
    rfl
theorem ft_131 {n np t : Nat} {M MM : Nat → Nat → Int32} (h : fn_I n np t M MM) (x : Int32) : fn_S 131 205 [.int x] M MM := by
  intro al am kl N
  obtain ⟨k, w, W, k1, k2, k3, k4, k5, k6, k7, k8⟩ := h.que
  obtain ⟨n1, n2, n3, n4, n5, n6⟩ := h.now
  have ho : fn_ord k w W (fn_ug (ai_up MM 0 0 0)) ((ai_up MM 0 0 0) 21) := k8.cg k6
  rw [show ai_ent (ai_mx 131) [.ref 0, .int x] = [.ref 0, .int x] from rfl, show ai_ent (ai_mx 205) [.ref 0, .int x] = [.ref 0, .int x, ai_un, ai_un] from rfl]
  rw [bq_131_0, fw_142, fb_s, bq_131_1, bq_205_0, fw_148, fb_s, bq_205_1]
  by_cases hx : 1 ≤ x ∧ x ≤ 9
  · have hx0 : 0 ≤ x ∧ x < nI 10 := ⟨Int32.le_trans (by decide) hx.1, Int32.lt_of_le_of_lt hx.2 (by decide)⟩
    obtain ⟨m, m1, m2⟩ := fi_of (n := 10) (by omega) hx0
    subst m2
    have hv : nI t ≠ -2 := fun q => by
      have := nI_pos' (n := t) (by omega)
      rw [q] at this
      exact absurd this (by decide)
    rw [if_neg (fun q => fn_b0.mp q hx), if_neg (fun q => fn_b0.mp q hx), bq_205_3, fw_204 k2 k1 (show (ai_up MM 0 0 0) 0 7 = nI k from k5) ho, fb_s, bq_205_4]
    have ev : (if (0 : Int32) ≤ 0 ∧ (0 : Int32) < nI w then nI (W (0 : Int32).toNatClampNeg) else -1) = (if 0 < w then nI (W 0) else -1) := by
      by_cases g : 0 < w
      · rw [if_pos g, if_pos ⟨Int32.le_rfl, nI_lt (a := 0) (by omega) (by omega)⟩]
        rfl
      · rw [if_neg g, if_neg (fun q => absurd q.2 (nI_nlt (b := w) (a := 0) (by omega) (by omega)))]
    have l := fl_205 (d := 199) (al := am) (N := N) (M := ai_up MM 0 0 0) (m := m) (W := W) (v := nI t) k2 k1 (by omega) k5 n3 hv rfl (min m w) 0 (MM 21) (by omega) (by
      rw [show (fun a => W (0 + a)) = W from funext (fun a => by rw [Nat.zero_add])]
      exact ho)
    rw [show fn_rw (ai_up MM 0 0 0) 21 (MM 21) = ai_up MM 0 0 0 from fn_rw_id (M := ai_up MM 0 0 0) (k := 21)] at l
    rw [nI_0] at l
    rw [ev, l]
    have emin : ai_run 198 212 0 [.int (nI m), .int (M 51 1)] [] (hC al kl M) = some (.inl (some (.int (nI (min m w)))), hC al kl M) := by
      rw [bq_212_0, k4]
      by_cases g : w < m
      · rw [if_pos (nI_lt g (by omega)), bq_212_1, bq_212_2, Nat.min_eq_right (by omega)]
      · rw [if_neg (nI_nlt (by omega) (by omega)), bq_212_2, Nat.min_eq_left (by omega)]
    have la := fl_43a (d := 199) (al := al) (kl := kl) (M := M) (W := W) (v := nI t) (w := w) (by omega) (fun a ha => ⟨k7 a ha, by have := (k8.1 a ha).1; omega⟩) (min m w) 0 (M 53) ai_un (by omega)
    rw [fn_rw_id, Nat.zero_add, nI_0] at la
    obtain ⟨g', lb, lc⟩ := fl_43b (d := 199) (al := al) (kl := kl) (M := fn_rw M 53 (fn_hr W (nI t) (M 53) 0 (min m w))) (w := w) (c := min m w) (g0 := M 54) (by omega) k4 (w - min m w) (min m w) (M 54) ai_un ai_un (by omega) (Nat.le_refl _) (fun a ha => absurd ha (by omega)) (fun a _ => rfl)
    rw [show fn_rw (fn_rw M 53 (fn_hr W (nI t) (M 53) 0 (min m w))) 54 (M 54) = fn_rw M 53 (fn_hr W (nI t) (M 53) 0 (min m w)) from fn_rw_id (M := fn_rw M 53 (fn_hr W (nI t) (M 53) 0 (min m w))) (k := 54)] at lb
    have es : nI w - nI (min m w) = nI (w - min m w) := by
      have : nI w = nI (w - min m w) + nI (min m w) := by rw [nI_add, Nat.sub_add_cancel (Nat.min_le_right _ _)]
      rw [this, Int32.add_sub_cancel]
    rw [bq_43_0, n2, emin, fb_s, bq_43_1, la, bq_43_3, lb, bq_43_5, show (fn_rw (fn_rw M 53 (fn_hr W (nI t) (M 53) 0 (min m w))) 54 g') 51 1 = nI w from k4, es, fb_s, bq_131_2, bq_137_0, fb_s, bq_131_3, bq_131_5]
    have hq := k8.cg (u' := M 52) (hd' := M 53) (fun j _ => ⟨rfl, rfl⟩)
    rw [← show (fun a => W (0 + a)) = W from funext (fun a => by rw [Nat.zero_add])] at hq
    have hh := fn_ord.hear (w := w) hv (min m w) 0 (M 53) (by omega) hq
    rw [Nat.zero_add] at hh
    refine ⟨_, n, np, t, _, _, rfl, rfl, ⟨rfl, rfl⟩, ⟨h.court, h.land, h.cal, ⟨n1, n2, n3, rfl, n5, n6⟩, h.past, h.ldg, h.told, ⟨k, k2, k3, k5, ?_⟩, h.tap, ⟨k, w - min m w, fun a => W (min m w + a), by omega, k2, k3, rfl, k5, ?_, ?_, hh⟩, h.flt, h.rul⟩⟩
    · exact fn_hr_cg _ _ _ _ (fun j hj => (k6 j hj).2)
    · exact fun j hj => ⟨(k6 j hj).1, fn_hr_cg _ _ _ _ (fun j hj => (k6 j hj).2) j hj⟩
    · intro i hi
      show g' i = nI (W (min m w + i))
      rw [lc i (by omega), k7 (i + min m w) (by omega), Nat.add_comm]
  · rw [if_pos (fn_b0.mpr hx), if_pos (fn_b0.mpr hx), bq_131_4, bq_136_0, fb_s, bq_131_5, bq_144_0, fb_s, bq_205_2]
    exact ⟨_, n, np, t, _, _, rfl, rfl, ⟨rfl, rfl⟩, h.no 2⟩
