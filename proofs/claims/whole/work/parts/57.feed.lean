/-! fault, where, feed -/
theorem fj_nle {c : Int32} {n k : Nat} (hc : c = nI n) (h : k < n) (hn : n < 2 ^ 31) : ¬ c ≤ nI k := hc ▸ nI_ge h hn
theorem fj_le {c : Int32} {n k : Nat} (hc : c = nI n) (h : n ≤ k) (hn : k < 2 ^ 31) : c ≤ nI k := hc ▸ nI_le h hn
theorem fj_nlt {c : Int32} {n k : Nat} (hc : c = nI n) (h : k ≤ n) (hn : n < 2 ^ 31) : ¬ c < nI k := hc ▸ nI_nlt h hn
theorem fj_lt {c : Int32} {n k : Nat} (hc : c = nI n) (h : n < k) (hn : k < 2 ^ 31) : c < nI k := hc ▸ nI_lt h hn
theorem fj_nge {c : Int32} {n k : Nat} (hc : c = nI n) (h : n < k) (hn : k < 2 ^ 31) : ¬ nI k ≤ c := hc ▸ nI_ge h hn
theorem fj_ge {c : Int32} {n k : Nat} (hc : c = nI n) (h : k ≤ n) (hn : n < 2 ^ 31) : nI k ≤ c := hc ▸ nI_le h hn
theorem fj_ngt {c : Int32} {n k : Nat} (hc : c = nI n) (h : n ≤ k) (hn : k < 2 ^ 31) : ¬ nI k < c := hc ▸ nI_nlt h hn
theorem fj_gt {c : Int32} {n k : Nat} (hc : c = nI n) (h : k < n) (hn : n < 2 ^ 31) : nI k < c := hc ▸ nI_lt h hn
theorem fj_ne {c : Int32} {n k : Nat} (hc : c = nI n) (h : k ≠ n) (hk : k < 2 ^ 31) (hn : n < 2 ^ 31) : ¬ nI k = c := fun q => h ((nI_eq hk hn).mp (q.trans hc))
theorem ft_115 {n np t : Nat} {M MM : Nat → Nat → Int32} (h : fn_I n np t M MM) : fn_S 115 175 [] M MM := by
  intro al am kl N
  rw [show ai_ent (ai_mx 115) [.ref 0] = [.ref 0] from rfl, show ai_ent (ai_mx 175) [.ref 0] = [.ref 0] from rfl]
  rw [bq_115_0, bq_175_0, h.flt.1]
  exact ⟨_, n, np, t, _, _, rfl, rfl, ⟨rfl, rfl⟩, h.z⟩
theorem fw_93 {d : Nat} {al : Nat × Nat} {kl k : Nat} {M : Nat → Nat → Int32} {x : Int32} (hk : k ≤ 401) (h3 : M 28 3 = nI k) : ai_run d 93 0 [.ref 28, .int x] [] (hC al kl M) = some (.inl (some (.int (fn_pl x (M 28 3) (M 31)))), hC al kl M) := by
  unfold fn_pl
  by_cases g1 : x < 0
  · rw [if_neg (fun q => absurd g1 (Int32.not_lt.mpr q.1)), bq_93_0, if_pos g1, bq_93_1, bq_93_2]
  · by_cases g2 : M 28 3 ≤ x
    · rw [if_neg (fun q => absurd g2 (Int32.not_le.mpr q.2)), bq_93_0, if_neg g1, if_pos g2, bq_93_1, bq_93_2]
    · obtain ⟨p, p1, p2⟩ := fi_of (n := k) (by omega) ⟨Int32.not_lt.mp g1, h3 ▸ Int32.not_le.mp g2⟩
      have i0 : ai_in x 401 = true := by rw [p2, fi_in (by omega)]; exact decide_eq_true (by omega)
      rw [if_pos ⟨Int32.not_lt.mp g1, Int32.not_le.mp g2⟩, bq_93_0, if_neg g1, if_neg g2, i0, cond_true, bq_93_2]
theorem ft_116 {n np t : Nat} {M MM : Nat → Nat → Int32} (h : fn_I n np t M MM) : fn_S 116 176 [] M MM := by
  intro al am kl N
  obtain ⟨-, k, k1, k2⟩ := h.flt
  have e := congrArg Prod.snd h.now.2.2.2.1
  rw [show ai_ent (ai_mx 116) [.ref 0] = [.ref 0] from rfl, show ai_ent (ai_mx 176) [.ref 0] = [.ref 0] from rfl]
  rw [bq_116_0, bq_176_0]
  by_cases g : M 0 14 = 4
  · rw [if_pos g, bq_61_0, fw_93 k1 k2, fb_s, bq_61_1, fb_s, bq_116_1, bq_116_3, ← show MM 0 2 = fn_pl (M 32 3) (M 28 3) (M 31) from e.trans (if_pos g)]
    exact ⟨_, n, np, t, _, _, rfl, rfl, ⟨rfl, rfl⟩, h.z⟩
  · rw [if_neg g, bq_116_2, bq_116_3, ← show MM 0 2 = -1 from e.trans (if_neg g)]
    exact ⟨_, n, np, t, _, _, rfl, rfl, ⟨rfl, rfl⟩, h.z⟩
theorem fb_255 : ∀ i : Nat, (hi : i < 32) → ¬ i < 8 → (255#32)[i] = false := by decide
theorem fb_by (x : Int32) (s : Int32) (hs : s = 24 ∨ s = 16 ∨ s = 8 ∨ s = 0) : ((x.toUInt32 >>> (s.toUInt32 &&& Int32.toUInt32 31)).toInt32) &&& (255 : Int32) = ((x >>> (s &&& 31)).toInt8.toInt32.toInt8.toInt32) &&& 255 := by
  rcases hs with h | h | h | h <;> subst h <;> apply Int32.toBitVec_inj.mp <;> simp <;> ext i hi <;> simp [BitVec.getElem_sshiftRight, BitVec.getElem_signExtend] <;> by_cases h8 : i < 8
  · simp [h8, hi, show 24 + i < 32 by omega, BitVec.getLsbD_eq_getElem]
  · simp [fb_255 i hi h8]
  · simp [h8, hi, show 16 + i < 32 by omega, BitVec.getLsbD_eq_getElem]
  · simp [fb_255 i hi h8]
  · simp [h8, hi, show 8 + i < 32 by omega, BitVec.getLsbD_eq_getElem]
  · simp [fb_255 i hi h8]
  · simp [h8, hi]
  · simp [fb_255 i hi h8]
theorem fb_rg (x : Int32) : 0 ≤ x &&& 255 ∧ x &&& 255 ≤ 255 := by
  have h : ((x &&& 255).toBitVec).toNat ≤ 255 := by
    rw [Int32.toBitVec_and, BitVec.toNat_and]
    exact Nat.and_le_right
  have e : (x &&& 255).toInt = ((x &&& 255).toBitVec).toNat := by
    rw [← Int32.toInt_toBitVec, BitVec.toInt_eq_toNat_cond, if_pos (by omega)]
  rw [Int32.le_iff_toInt_le, Int32.le_iff_toInt_le, e]
  exact ⟨by show (0 : Int) ≤ _; omega, by show _ ≤ (255 : Int); omega⟩
/-- the two tapes, k bytes on each -/
def fn_ta (M : Nat → Nat → Int32) (f : Nat → Int32) (k : Nat) : Nat → Nat → Int32 := ai_up (fn_rw M 29 f) 28 0 (nI k)
def fn_tm (M : Nat → Nat → Int32) (f : Nat → Int32) (k : Nat) : Nat → Nat → Int32 := ai_up (fn_rw M 23 f) 0 33 (nI k)
def fn_byC (x s : Int32) : Int32 := ((x.toUInt32 >>> (s.toUInt32 &&& Int32.toUInt32 31)).toInt32) &&& (255 : Int32)
def fn_byM (x s : Int32) : Int32 := vp_nar .byte ((x >>> (s &&& 31)).toInt8.toInt32)
theorem fn_ta_up {M : Nat → Nat → Int32} {f : Nat → Int32} {k : Nat} {v w : Int32} : ai_up (ai_up (fn_ta M f k) 29 k v) 28 0 w = ai_up (fn_rw M 29 (upd f k v)) 28 0 w := by
  funext a j
  unfold fn_ta ai_up fn_rw upd
  by_cases h : a = 28
  · subst h; simp only [if_true]; by_cases hj : j = 0 <;> simp [hj]
  · simp only [h, if_false]; by_cases h2 : a = 29 <;> simp [h2]
theorem fn_tm_up {M : Nat → Nat → Int32} {f : Nat → Int32} {k : Nat} {v w : Int32} : ai_up (ai_up (fn_tm M f k) 23 k v) 0 33 w = ai_up (fn_rw M 23 (upd f k v)) 0 33 w := by
  funext a j
  unfold fn_tm ai_up fn_rw upd
  by_cases h : a = 0
  · subst h; simp only [if_true]; by_cases hj : j = 33 <;> simp [hj]
  · simp only [h, if_false]; by_cases h2 : a = 23 <;> simp [h2]
theorem fl_91 {d : Nat} {al : Nat × Nat} {kl k : Nat} {M : Nat → Nat → Int32} {f : Nat → Int32} {x s : Int32} (hk : k < 400) (hs : ¬ s < 0) : ai_run d 91 1 [.ref 28, .int x, .int s] [] (hC al kl (fn_ta M f k)) = ai_run d 91 1 [.ref 28, .int x, .int (s + (-8))] [] (hC al kl (fn_ta M (upd f k (fn_byC x s)) (k + 1))) := by
  have e : fn_ta M f k 28 0 = nI k := rfl
  rw [bq_91_1, if_neg hs, e, if_neg (fj_nle (c := 400) (n := 400) rfl hk (by omega)), fi_in (by omega), decide_eq_true hk, cond_true, nI_clamp (by omega), nI_1, fn_ta_up]
  rfl
theorem fw_91 {d : Nat} {al : Nat × Nat} {kl k : Nat} {M : Nat → Nat → Int32} {f : Nat → Int32} {x : Int32} {v : Value} (hk : k + 3 < 400) : ai_run d 91 0 [.ref 28, .int x, v] [] (hC al kl (fn_ta M f k)) = some (.inl none, hC al kl (fn_ta M (upd (upd (upd (upd f k (fn_byC x 24)) (k + 1) (fn_byC x 16)) (k + 2) (fn_byC x 8)) (k + 3) (fn_byC x 0)) (k + 4))) := by
  rw [bq_91_0, fl_91 (by omega) (by decide), fl_91 (by omega) (by decide), fl_91 (by omega) (by decide), fl_91 (by omega) (by decide), bq_91_1, if_pos (by decide), bq_91_2]
  rfl
/-- which of the five numbers -/
def fn_sel (a b c d e : Int32) (i : Nat) : Int32 := if i < 4 then a else if i < 8 then b else if i < 12 then c else if i < 16 then d else e
theorem fi_24 : ∀ i, i < 20 → (24 : Int32) - (8 : Int32) * (nI i - nI i / (4 : Int32) * (4 : Int32)) = nI (24 - 8 * (i % 4)) := by decide +kernel
theorem fl_173 {dd : Nat} {al : Nat × Nat} {k i : Nat} {M : Nat → Nat → Int32} {N : Nat → Nat → Int64} {f : Nat → Int32} {a b c d e : Int32} {v : Value} (hk : k < 400) (hi : i < 20) : ai_run dd 173 2 [.ref 0, .int a, .int b, .int c, .int d, .int e, .int (nI i), v] [] (hM al (fn_tm M f k) N) = ai_run dd 173 2 [.ref 0, .int a, .int b, .int c, .int d, .int e, .int (nI (i + 1)), .int (fn_sel a b c d e i)] [] (hM al (fn_tm M (upd f k (fn_byM (fn_sel a b c d e i) (nI (24 - 8 * (i % 4))))) (k + 1)) N) := by
  have e0 : fn_tm M f k 0 33 = nI k := rfl
  have g1 : ai_run dd 173 2 [.ref 0, .int a, .int b, .int c, .int d, .int e, .int (nI i), v] [] (hM al (fn_tm M f k) N) = ai_run dd 173 7 [.ref 0, .int a, .int b, .int c, .int d, .int e, .int (nI i), ai_un] [.int (fn_sel a b c d e i)] (hM al (fn_tm M f k) N) := by
    rw [bq_173_2, if_neg (fj_nle (c := 20) (n := 20) rfl hi (by omega))]
    unfold fn_sel
    by_cases h1 : i < 4
    · rw [if_neg (fj_nle (c := 4) (n := 4) rfl h1 (by omega)), if_pos h1]
    · rw [if_pos (fj_le (c := 4) (n := 4) rfl (by omega) (by omega)), bq_173_3, if_neg h1]
      by_cases h2 : i < 8
      · rw [if_neg (fj_nle (c := 8) (n := 8) rfl h2 (by omega)), if_pos h2]
      · rw [if_pos (fj_le (c := 8) (n := 8) rfl (by omega) (by omega)), bq_173_4, if_neg h2]
        by_cases h3 : i < 12
        · rw [if_neg (fj_nle (c := 12) (n := 12) rfl h3 (by omega)), if_pos h3]
        · rw [if_pos (fj_le (c := 12) (n := 12) rfl (by omega) (by omega)), bq_173_5, if_neg h3]
          by_cases h4 : i < 16
          · rw [if_neg (fj_nle (c := 16) (n := 16) rfl h4 (by omega)), if_pos h4]
          · rw [if_pos (fj_le (c := 16) (n := 16) rfl (by omega) (by omega)), bq_173_6, if_neg h4]
  rw [g1, bq_173_7, e0, fi_in (by omega), decide_eq_true hk, cond_true, nI_clamp (by omega), nI_1, nI_1, fn_tm_up, fi_24 i hi]
  rfl
/-- the tapes hold the same bytes -/
def fn_tr (k : Nat) (f g : Nat → Int32) : Prop := ∀ j : Nat, j < k → f j = g j &&& 255 ∧ 0 ≤ f j ∧ f j ≤ 255
theorem fn_tr.up {k : Nat} {f g : Nat → Int32} (h : fn_tr k f g) {x s : Int32} (hs : s = 24 ∨ s = 16 ∨ s = 8 ∨ s = 0) : fn_tr (k + 1) (upd f k (fn_byC x s)) (upd g k (fn_byM x s)) := by
  intro j hj
  by_cases hjk : j = k
  · subst hjk
    rw [pk_us, pk_us]
    exact ⟨fb_by x s hs, fb_rg _⟩
  · rw [pk_un hjk, pk_un hjk]
    exact h j (by omega)
set_option maxHeartbeats 2000000 in
theorem ft_113 {n np t : Nat} {M MM : Nat → Nat → Int32} (h : fn_I n np t M MM) (a b c d e : Int32) : fn_S 113 173 [.int a, .int b, .int c, .int d, .int e] M MM := by
  intro al am kl N
  obtain ⟨k, k1, k2, k3, k4⟩ := h.tap
  rw [show ai_ent (ai_mx 113) [.ref 0, .int a, .int b, .int c, .int d, .int e] = [.ref 0, .int a, .int b, .int c, .int d, .int e] from rfl, show ai_ent (ai_mx 173) [.ref 0, .int a, .int b, .int c, .int d, .int e] = [.ref 0, .int a, .int b, .int c, .int d, .int e, ai_un, ai_un] from rfl]
  rw [bq_113_0, bq_90_0, bq_173_0, k2, k3, show nI k + (20 : Int32) = nI (k + 20) from nI_add k 20]
  by_cases hk : k ≤ 380
  · have eC : M = fn_ta M (M 29) k := by
      funext x j
      unfold fn_ta ai_up fn_rw upd
      by_cases hx : x = 28
      · subst hx
        simp only [if_true]
        by_cases hj : j = 0
        · subst hj; simp [k2]
        · simp [hj]
      · simp only [hx, if_false]; by_cases h2 : x = 29 <;> simp [h2]
    have eM : ai_up MM 0 0 0 = fn_tm (ai_up MM 0 0 0) (MM 23) k := by
      funext x j
      unfold fn_tm ai_up fn_rw upd
      by_cases hx : x = 0
      · subst hx
        simp only [if_true]
        by_cases hj : j = 33
        · subst hj; simp [k3]
        · simp [hj]
      · simp only [hx, if_false]; by_cases h2 : x = 23 <;> simp [h2]
    rw [if_neg (fj_nlt (c := 380) (n := 380) rfl hk (by omega)), bq_90_2, if_pos (Or.inr rfl), fb_s, bq_113_1, if_neg (by decide), bq_113_2, if_pos (fj_ge (c := 400) (n := 400) rfl (by omega) (by omega)), bq_173_1, eM, show (0 : Int32) = nI 0 from rfl]
    rw [show ai_run 199 91 0 [.ref 28, .int a, ai_un] [] (hC al kl M) = ai_run 199 91 0 [.ref 28, .int a, ai_un] [] (hC al kl (fn_ta M (M 29) k)) from by rw [← eC]]
    rw [fw_91 (by omega), fb_n, bq_113_3, fw_91 (by omega), fb_n, bq_113_4, fw_91 (by omega), fb_n, bq_113_5, fw_91 (by omega), fb_n, bq_113_6, fw_91 (by omega), fb_n, bq_113_7]
    iterate 20 rw [fl_173 (by omega) (by omega)]
    rw [bq_173_2, if_pos (by decide), bq_173_8]
    have hr : fn_tr k (M 29) (MM 23) := k4
    have h24 : (24 : Int32) = 24 ∨ (24 : Int32) = 16 ∨ (24 : Int32) = 8 ∨ (24 : Int32) = 0 := by decide
    have h16 : (16 : Int32) = 24 ∨ (16 : Int32) = 16 ∨ (16 : Int32) = 8 ∨ (16 : Int32) = 0 := by decide
    have h8 : (8 : Int32) = 24 ∨ (8 : Int32) = 16 ∨ (8 : Int32) = 8 ∨ (8 : Int32) = 0 := by decide
    have h0 : (0 : Int32) = 24 ∨ (0 : Int32) = 16 ∨ (0 : Int32) = 8 ∨ (0 : Int32) = 0 := by decide
    have hq := (((((((((((((((((((hr.up (x := a) h24).up (x := a) h16).up (x := a) h8).up (x := a) h0).up (x := b) h24).up (x := b) h16).up (x := b) h8).up (x := b) h0).up (x := c) h24).up (x := c) h16).up (x := c) h8).up (x := c) h0).up (x := d) h24).up (x := d) h16).up (x := d) h8).up (x := d) h0).up (x := e) h24).up (x := e) h16).up (x := e) h8).up (x := e) h0
    exact ⟨nI (k + 20), n, np, t, _, _, rfl, rfl, ⟨rfl, rfl⟩, ⟨h.court, h.land, h.cal, h.now, h.past, h.ldg, h.told, h.plz, ⟨k + 20, by omega, rfl, rfl, hq⟩, h.que, h.flt, h.rul⟩⟩
  · rw [if_pos (fj_lt (c := 380) (n := 380) rfl (by omega) (by omega)), bq_90_1, bq_90_2, if_pos (Or.inl rfl), fb_s, bq_113_1, if_pos rfl, if_neg (fj_nge (c := 400) (n := 400) rfl (by omega) (by omega))]
    exact ⟨_, n, np, t, _, _, rfl, rfl, ⟨rfl, rfl⟩, h.z⟩
