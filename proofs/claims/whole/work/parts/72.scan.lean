/-! ordinances: the class's scan; the reference's next token -/
theorem fp_pl_ge (b : Nat → Nat) (n i : Nat) (h : fp_ps b n i ≤ n) : fp_ps b n i ≤ fp_pl b n i ∧ fp_pl b n i ≤ n := fp_en1_ge h
/-- a token that doesn't end the text takes a byte or more -/
theorem fp_ps_s {b : Nat → Nat} {n i : Nat} (h : fp_ps b n i ≤ n) (h1 : fp_tk b n i ≠ -1) : fp_ps b n i < fp_ps b n (i + 1) ∧ fp_ps b n (i + 1) ≤ n := by
  have hp := fp_pl_ge b n i h
  have hlt : fp_pl b n i < n := by
    apply Classical.byContradiction
    intro hc
    exact h1 (if_pos (by omega))
  show fp_ps b n i < fp_nx b n (fp_pl b n i) ∧ fp_nx b n (fp_pl b n i) ≤ n
  unfold fp_nx
  rw [if_neg (by omega)]
  by_cases c : fp_le (b (fp_pl b n i)) = true
  · rw [if_pos c]
    have := fp_en1_gt hlt c
    have := fp_en1_ge (P := fp_le) (b := b) (show fp_pl b n i ≤ n by omega)
    omega
  · rw [if_neg c]
    by_cases c2 : fp_di (b (fp_pl b n i)) = true
    · rw [if_pos c2]
      have := fp_en1_gt hlt c2
      have := fp_en1_ge (P := fp_di) (b := b) (show fp_pl b n i ≤ n by omega)
      omega
    · rw [if_neg c2]; omega
/-- the tokens up to the last one, on the class's tape -/
def fp_C (b : Nat → Nat) (n L : Nat) (c3 : Int32) (r30 r31 : Nat → Int32) : Prop := L ≤ 400 ∧ c3 = nI (L + 1) ∧ (∀ j, j ≤ L → r30 j = fp_tk b n j ∧ r31 j = nI (fp_pl b n j) ∧ fp_ps b n j ≤ n) ∧ (∀ j, j < L → fp_tk b n j ≠ -1 ∧ fp_tk b n j ≠ -2) ∧ (fp_tk b n L = -1 ∨ fp_tk b n L = -2)
theorem fl_94 {d : Nat} {al : Nat × Nat} {kl n : Nat} {b : Nat → Nat} {M : Nat → Nat → Int32} (hB : fp_Bc b n M) : ∀ (m c : Nat) (x : Int32) (r30 r31 : Nat → Int32) (v1 v4 : Value), n < m + fp_ps b n c → fp_ps b n c ≤ n → c ≤ fp_ps b n c → x ≠ -1 → x ≠ -2 → (∀ j, j < c → r30 j = fp_tk b n j ∧ r31 j = nI (fp_pl b n j) ∧ fp_ps b n j ≤ n) → (∀ j, j < c → fp_tk b n j ≠ -1 ∧ fp_tk b n j ≠ -2) → ∃ (L : Nat) (r30' r31' : Nat → Int32), ai_run (d + 4) 94 3 [.ref 28, v1, .int x, .int (nI (fp_ps b n c)), v4] [] (hC al kl (ai_up (fn_rw (fn_rw M 30 r30) 31 r31) 28 3 (nI c))) = some (.inl none, hC al kl (ai_up (fn_rw (fn_rw M 30 r30') 31 r31') 28 3 (nI (L + 1)))) ∧ fp_C b n L (nI (L + 1)) r30' r31'
  | 0, c, x, r30, r31, v1, v4, h, h0, _, _, _, _, _ => by omega
  | m + 1, c, x, r30, r31, v1, v4, h, h0, hc, x1, x2, hr, ht => by
    obtain ⟨b1, b2, b3⟩ := id hB
    have hBc : ∀ (r30 r31 : Nat → Int32) (k : Nat), fp_Bc b n (ai_up (fn_rw (fn_rw M 30 r30) 31 r31) 28 3 (nI k)) := fun r30 r31 k => hB
    have hp := fp_pl_ge b n c h0
    have e3 : (ai_up (fn_rw (fn_rw M 30 r30) 31 r31) 28 3 (nI c)) 28 3 = nI c := fu_at
    have one : ai_run (d + 4) 94 3 [.ref 28, v1, .int x, .int (nI (fp_ps b n c)), v4] [] (hC al kl (ai_up (fn_rw (fn_rw M 30 r30) 31 r31) 28 3 (nI c))) = ai_run (d + 4) 94 3 [.ref 28, ai_un, .int (fp_tk b n c), .int (nI (if n ≤ fp_pl b n c then fp_pl b n c + 1 else fp_nx b n (fp_pl b n c))), .int (nI (if n ≤ fp_pl b n c then fp_pl b n c + 1 else fp_nx b n (fp_pl b n c)))] [] (hC al kl (ai_up (fn_rw (fn_rw M 30 (upd r30 c (fp_tk b n c))) 31 (upd r31 c (nI (fp_pl b n c)))) 28 3 (nI (c + 1)))) := by
      have ew : ai_up (ai_up (ai_up (ai_up (fn_rw (fn_rw M 30 r30) 31 r31) 28 3 (nI c)) 30 c (fp_tk b n c)) 31 c (nI (fp_pl b n c))) 28 3 (nI (c + 1)) = ai_up (fn_rw (fn_rw M 30 (upd r30 c (fp_tk b n c))) 31 (upd r31 c (nI (fp_pl b n c)))) 28 3 (nI (c + 1)) := by
        funext a
        by_cases h1 : a = 28
        · subst h1
          funext j
          show upd (upd (M 28) 3 (nI c)) 3 (nI (c + 1)) j = upd (M 28) 3 (nI (c + 1)) j
          by_cases hj : j = 3
          · subst hj; rw [pk_us, pk_us]
          · rw [pk_un hj, pk_un hj, pk_un hj]
        · by_cases h2 : a = 30
          · subst h2; rfl
          · by_cases h3 : a = 31
            · subst h3; rfl
            · simp [ai_up, fn_rw, h1, h2, h3]
      rw [bq_94_3, e3, if_neg (fj_nlt (c := 400) (n := 400) rfl (by omega) (by omega)), if_neg x1, if_neg x2, fw_95 (hBc r30 r31 c) h0, show fp_en1 fp_bl b n (fp_ps b n c) = fp_pl b n c from rfl, fb_s, bq_94_4, fw_96 (hBc r30 r31 c) hp.2, fb_s, bq_94_5, fw_97 (hBc r30 r31 c) hp.2, fb_s, bq_94_6, e3, fi_in (by omega), decide_eq_true (by omega), cond_true, cond_true, nI_clamp (by omega), nI_1]
      exact congrArg (fun q => ai_run (d + 4) 94 3 [.ref 28, ai_un, .int (fp_tk b n c), .int (nI (if n ≤ fp_pl b n c then fp_pl b n c + 1 else fp_nx b n (fp_pl b n c))), .int (nI (if n ≤ fp_pl b n c then fp_pl b n c + 1 else fp_nx b n (fp_pl b n c)))] [] (hC al kl q)) ew
    have hr' : ∀ j, j < c + 1 → (upd r30 c (fp_tk b n c)) j = fp_tk b n j ∧ (upd r31 c (nI (fp_pl b n c))) j = nI (fp_pl b n j) ∧ fp_ps b n j ≤ n := fun j hj => by
      by_cases e : j = c
      · subst e; rw [pk_us, pk_us]; exact ⟨rfl, rfl, h0⟩
      · rw [pk_un e, pk_un e]; exact hr j (by omega)
    have e3' : (ai_up (fn_rw (fn_rw M 30 (upd r30 c (fp_tk b n c))) 31 (upd r31 c (nI (fp_pl b n c)))) 28 3 (nI (c + 1))) 28 3 = nI (c + 1) := fu_at
    by_cases hend : fp_tk b n c = -1 ∨ fp_tk b n c = -2
    · refine ⟨c, _, _, one.trans ?_, by omega, rfl, fun j hj => hr' j (by omega), ht, hend⟩
      rw [bq_94_3, e3', bq_94_7]
      by_cases z : (400 : Int32) < nI (c + 1)
      · rw [if_pos z]
      · rw [if_neg z]
        by_cases z1 : fp_tk b n c = -1
        · rw [if_pos z1]
        · rw [if_neg z1, if_pos (hend.resolve_left z1)]
    · have t1 : fp_tk b n c ≠ -1 := fun z => hend (Or.inl z)
      have t2 : fp_tk b n c ≠ -2 := fun z => hend (Or.inr z)
      have hs := fp_ps_s h0 t1
      have hlt : ¬ n ≤ fp_pl b n c := fun z => t1 (if_pos z)
      obtain ⟨L, r30', r31', p1, p2⟩ := fl_94 (d := d) (al := al) (kl := kl) hB m (c + 1) (fp_tk b n c) (upd r30 c (fp_tk b n c)) (upd r31 c (nI (fp_pl b n c))) ai_un (.int (nI (fp_ps b n (c + 1)))) (by omega) hs.2 (by omega) t1 t2 hr' (fun j hj => by
        by_cases e : j = c
        · rw [e]; exact ⟨t1, t2⟩
        · exact ht j (by omega))
      refine ⟨L, r30', r31', one.trans ?_, p2⟩
      rw [if_neg hlt]
      exact p1
/-! the reference -/
theorem fp_lN {a b : Nat} (ha : a < 2 ^ 62) (hb : b < 2 ^ 62) : lN a = lN b ↔ a = b := by
  constructor
  · intro h
    have h1 : (lN a).toInt = (a : Int) := lg_ofNat_toInt (by omega)
    have h2 : (lN b).toInt = (b : Int) := lg_ofNat_toInt (by omega)
    rw [h] at h1
    omega
  · intro h; rw [h]
/-- the reference's token is the class's -/
def fp_R (τ so sg nu : Int32) (w : Int64) : Prop := (τ = -1 ∧ so = 1) ∨ (τ = -2 ∧ so = 0) ∨ (∃ c : Nat, fp_sg c = true ∧ τ = nI c ∧ so = 4 ∧ sg = nI c) ∨ (∃ m : Nat, m ≤ 999 ∧ τ = nI (1000 + m) ∧ so = 3 ∧ nu = nI m) ∨ ((τ = 256 ∨ ∃ j, j < 10 ∧ τ = fp_cd j) ∧ so = 2 ∧ ∀ j, j < 10 → (τ = fp_cd j ↔ w = lN (fp_h j)))
/-- the reference's tape -/
def fp_D (b : Nat → Nat) (n : Nat) (m34 : Int32) (s23 : Nat → Int32) : Prop := n ≤ 400 ∧ m34 = nI n ∧ ∀ j, j < n → s23 j &&& 255 = nI (b j) ∧ b j ≤ 255
abbrev fp_Dm (b : Nat → Nat) (n : Nat) (MM : Nat → Nat → Int32) : Prop := fp_D b n (MM 0 34) (MM 23)
theorem fw_162 {d : Nat} {al : Nat × Nat} {N : Nat → Nat → Int64} {n k : Nat} {b : Nat → Nat} {M : Nat → Nat → Int32} (hD : fp_Dm b n M) (hk : k < 2 ^ 31) : ai_run d 162 0 [.ref 0, .int (nI k)] [] (hM al M N) = some (.inl (some (.int (if k < n then nI (b k) else -1))), hM al M N) := by
  obtain ⟨h1, h2, h3⟩ := hD
  rw [bq_162_0, h2]
  by_cases c : k < n
  · rw [if_neg (nI_ge c (by omega)), fi_in (by omega), decide_eq_true (by omega), cond_true, nI_clamp (by omega), (h3 k c).1, bq_162_2, if_pos c]
  · rw [if_pos (nI_le (by omega) hk), bq_162_1, bq_162_2, if_neg c]
theorem fw_163 {d c : Nat} {hp : ai_Hp} (hc : c ≤ 255) : ai_run d 163 0 [.int (nI c)] [] hp = some (.inl (some (.int (fn_bi (fp_le c)))), hp) := by
  rw [bq_163_0]
  by_cases c1 : c < 97
  · rw [if_pos (fj_gt (c := 97) (n := 97) rfl c1 (by omega)), bq_163_1, bq_163_2, if_pos (Or.inl rfl), show fp_le c = false from decide_eq_false (by omega)]
    rfl
  · rw [if_neg (fj_ngt (c := 97) (n := 97) rfl (by omega) (by omega))]
    by_cases c2 : 122 < c
    · rw [if_pos (fj_lt (c := 122) (n := 122) rfl c2 (by omega)), bq_163_1, bq_163_2, if_pos (Or.inl rfl), show fp_le c = false from decide_eq_false (by omega)]
      rfl
    · rw [if_neg (fj_nlt (c := 122) (n := 122) rfl (by omega) (by omega)), bq_163_2, if_pos (Or.inr rfl), show fp_le c = true from decide_eq_true (by omega)]
      rfl
theorem fw_164 {d c : Nat} {hp : ai_Hp} (hc : c ≤ 255) : ai_run d 164 0 [.int (nI c)] [] hp = some (.inl (some (.int (fn_bi (fp_di c)))), hp) := by
  rw [bq_164_0]
  by_cases c1 : c < 48
  · rw [if_pos (fj_gt (c := 48) (n := 48) rfl c1 (by omega)), bq_164_1, bq_164_2, if_pos (Or.inl rfl), show fp_di c = false from decide_eq_false (by omega)]
    rfl
  · rw [if_neg (fj_ngt (c := 48) (n := 48) rfl (by omega) (by omega))]
    by_cases c2 : 57 < c
    · rw [if_pos (fj_lt (c := 57) (n := 57) rfl c2 (by omega)), bq_164_1, bq_164_2, if_pos (Or.inl rfl), show fp_di c = false from decide_eq_false (by omega)]
      rfl
    · rw [if_neg (fj_nlt (c := 57) (n := 57) rfl (by omega) (by omega)), bq_164_2, if_pos (Or.inr rfl), show fp_di c = true from decide_eq_true (by omega)]
      rfl
theorem fw_163n {d : Nat} {hp : ai_Hp} : ai_run d 163 0 [.int (-1)] [] hp = some (.inl (some (.int 0)), hp) := by
  rw [bq_163_0, if_pos (by decide), bq_163_1, bq_163_2, if_pos (Or.inl rfl)]
theorem fw_164n {d : Nat} {hp : ai_Hp} : ai_run d 164 0 [.int (-1)] [] hp = some (.inl (some (.int 0)), hp) := by
  rw [bq_164_0, if_pos (by decide), bq_164_1, bq_164_2, if_pos (Or.inl rfl)]
/-- rows of the reference beside the reader's own fields -/
def fp_ag (MM MM' : Nat → Nat → Int32) : Prop := (∀ a, a ≠ 0 → MM' a = MM a) ∧ ∀ j, (j < 35 ∨ 39 < j) → MM' 0 j = MM 0 j
theorem fp_ag.refl {MM : Nat → Nat → Int32} : fp_ag MM MM := ⟨fun _ _ => rfl, fun _ _ => rfl⟩
theorem fp_ag.up {MM MM' : Nat → Nat → Int32} (h : fp_ag MM MM') {i : Nat} (hi : 35 ≤ i ∧ i ≤ 39) (v : Int32) : fp_ag MM (ai_up MM' 0 i v) := by
  refine ⟨fun a ha => ?_, fun j hj => ?_⟩
  · rw [fu_row ha]; exact h.1 a ha
  · rw [fu_ne (by omega)]; exact h.2 j hj
theorem fp_ag.trans {M1 M2 M3 : Nat → Nat → Int32} (h : fp_ag M1 M2) (h' : fp_ag M2 M3) : fp_ag M1 M3 := ⟨fun a ha => (h'.1 a ha).trans (h.1 a ha), fun j hj => (h'.2 j hj).trans (h.2 j hj)⟩
theorem fp_ag.D {b : Nat → Nat} {n : Nat} {MM MM' : Nat → Nat → Int32} (h : fp_ag MM MM') (hD : fp_Dm b n MM) : fp_Dm b n MM' := by
  unfold fp_Dm
  rw [h.2 34 (by omega), h.1 23 (by omega)]
  exact hD
/-- blanks are passed -/
theorem fl_166a {d : Nat} {al : Nat × Nat} {N : Nat → Nat → Int64} {n : Nat} {b : Nat → Nat} {M : Nat → Nat → Int32} (hD : fp_Dm b n M) : ∀ (m p : Nat) (MM : Nat → Nat → Int32) (v1 v2 : Value), p + m = n → fp_ag M MM → MM 0 35 = nI p → ∃ MM' : Nat → Nat → Int32, ai_run (d + 1) 166 0 [.ref 0, v1, v2] [] (hM al MM N) = ai_run (d + 1) 166 2 [.ref 0, ai_un, ai_un] [] (hM al MM' N) ∧ fp_ag M MM' ∧ MM' 0 35 = nI (fp_run fp_bl b p m)
  | 0, p, MM, v1, v2, h, hg, h5 => by
    refine ⟨MM, ?_, hg, h5⟩
    have hn := hD.1
    rw [bq_166_0, h5, fw_162 (hg.D hD) (by omega), fb_s, bq_166_1, if_neg (show ¬ p < n by omega), if_neg (by decide)]
  | m + 1, p, MM, v1, v2, h, hg, h5 => by
    have hn := hD.1
    have hb := (hD.2.2 p (by omega)).2
    unfold fp_run
    rw [bq_166_0, h5, fw_162 (hg.D hD) (by omega), fb_s, bq_166_1, if_pos (show p < n by omega)]
    by_cases c : b p = 32
    · obtain ⟨MM', p1, p2, p3⟩ := fl_166a (d := d) (al := al) (N := N) hD m (p + 1) (ai_up MM 0 35 (nI (p + 1))) ai_un ai_un (by omega) (hg.up (by omega) _) fu_at
      refine ⟨MM', ?_, p2, ?_⟩
      · rw [c, if_pos (show nI 32 = 32 from rfl), h5, nI_1, p1]
      · rw [p3, c, if_pos (show fp_bl 32 = true from rfl)]
    · refine ⟨MM, ?_, hg, ?_⟩
      · rw [if_neg (fj_ne (c := 32) (n := 32) rfl c (by omega) (by omega))]
      · rw [h5, if_neg (show ¬ fp_bl (b p) = true from fun z => c (of_decide_eq_true z))]
theorem fp_e_lt {f : Nat → Nat} : ∀ m : Nat, (∀ i, i < m → f i ≤ 31) → fp_e f m < 32 ^ m
  | 0, _ => by show 0 < 1; omega
  | m + 1, h => by
    have := fp_e_lt (f := f) m (fun i hi => h i (by omega))
    have := h m (by omega)
    show 32 * fp_e f m + f m < 32 ^ (m + 1)
    rw [Nat.pow_succ]
    omega
/-- letters are read -/
theorem fl_166b {d : Nat} {al : Nat × Nat} {n p0 : Nat} {b : Nat → Nat} {M : Nat → Nat → Int32} (hD : fp_Dm b n M) : ∀ (m c : Nat) (MM : Nat → Nat → Int32) (N : Nat → Nat → Int64) (v1 : Value), p0 + c + m = n → fp_ag M MM → MM 0 35 = nI (p0 + c) → (c ≤ 8 → N 0 40 = lN (fp_en b p0 c)) → MM 0 36 = 0 → MM 0 37 = nI p0 → (∀ i, i < c → fp_le (b (p0 + i)) = true) → ∃ (MM' : Nat → Nat → Int32) (N' : Nat → Nat → Int64), ai_run (d + 1) 166 6 [.ref 0, v1, .int (nI c)] [] (hM al MM N) = some (.inl none, hM al MM' N') ∧ fp_ag M MM' ∧ MM' 0 35 = nI (fp_run fp_le b (p0 + c) m) ∧ MM' 0 37 = nI p0 ∧ MM' 0 36 = (if 8 < fp_run fp_le b (p0 + c) m - p0 then 0 else 2) ∧ (fp_run fp_le b (p0 + c) m - p0 ≤ 8 → N' 0 40 = lN (fp_en b p0 (fp_run fp_le b (p0 + c) m - p0)))
  | 0, c, MM, N, v1, h, hg, h5, h40, h36, h37, hl => by
    have hn := hD.1
    have e : fp_run fp_le b (p0 + c) 0 - p0 = c := by show p0 + c - p0 = c; omega
    rw [e]
    rw [bq_166_6, h5, fw_162 (hg.D hD) (by omega), fb_s, bq_166_7, if_neg (show ¬ p0 + c < n by omega), fw_163n, fb_s, bq_166_8, if_pos rfl, bq_166_11]
    by_cases c9 : 8 < c
    · refine ⟨MM, N, ?_, hg, h5, h37, by rw [if_pos c9]; exact h36, fun z => h40 z⟩
      rw [if_pos (fj_le (c := 9) (n := 9) rfl (by omega) (by omega)), bq_166_22]
    · refine ⟨ai_up MM 0 36 2, N, ?_, hg.up (by omega) _, h5, h37, by rw [if_neg c9]; exact fu_at, fun z => h40 z⟩
      rw [if_neg (fj_nle (c := 9) (n := 9) rfl (by omega) (by omega)), bq_166_22]
  | m + 1, c, MM, N, v1, h, hg, h5, h40, h36, h37, hl => by
    have hn := hD.1
    have hb := (hD.2.2 (p0 + c) (by omega)).2
    unfold fp_run
    rw [bq_166_6, h5, fw_162 (hg.D hD) (by omega), fb_s, bq_166_7, if_pos (show p0 + c < n by omega), fw_163 hb, fb_s, bq_166_8]
    cases hc : fp_le (b (p0 + c)) with
    | false =>
      have e : p0 + c - p0 = c := by omega
      rw [if_pos (show fn_bi false = 0 from rfl), bq_166_11, if_neg (show ¬ false = true by decide), e]
      by_cases c9 : 8 < c
      · refine ⟨MM, N, ?_, hg, h5, h37, by rw [if_pos c9]; exact h36, fun z => h40 z⟩
        rw [if_pos (fj_le (c := 9) (n := 9) rfl (by omega) (by omega)), bq_166_22]
      · refine ⟨ai_up MM 0 36 2, N, ?_, hg.up (by omega) _, h5, h37, by rw [if_neg c9]; exact fu_at, fun z => h40 z⟩
        rw [if_neg (fj_nle (c := 9) (n := 9) rfl (by omega) (by omega)), bq_166_22]
    | true =>
      have hbb := of_decide_eq_true hc
      have hl' : ∀ i, i < c + 1 → fp_le (b (p0 + i)) = true := fun i hi => by
        by_cases e : i = c
        · rw [e]; exact hc
        · exact hl i (by omega)
      rw [if_neg (show ¬ fn_bi true = 0 by decide), if_pos (show true = true from rfl)]
      by_cases c8 : c < 8
      · have hv : lN 32 * lN (fp_en b p0 c) + ((nI (b (p0 + c)) - 97) + 1).toInt64 = lN (fp_en b p0 (c + 1)) := by
          rw [show (97 : Int32) = nI 97 from rfl, fi_sub (by omega), nI_1, nI_l (by omega), lN_mul, lN_add]
          congr 1
          show _ = 32 * fp_e (fun i => b (p0 + i) - 96) c + (b (p0 + c) - 96)
          unfold fp_en
          omega
        obtain ⟨MM', N', p1, p2, p3, p4, p5, p6⟩ := fl_166b (d := d) (al := al) (p0 := p0) hD m (c + 1) (ai_up MM 0 35 (nI (p0 + (c + 1)))) (ai_uL N 0 40 (lN (fp_en b p0 (c + 1)))) ai_un (by omega) (hg.up (by omega) _) fu_at (fun _ => by simp [ai_uL, vp_updL]) h36 h37 hl'
        rw [show p0 + (c + 1) = p0 + c + 1 by omega] at p1 p3 p5 p6
        refine ⟨MM', N', ?_, p2, p3, p4, p5, p6⟩
        rw [if_neg (fj_nle (c := 8) (n := 8) rfl c8 (by omega)), h5, fw_162 (hg.D hD) (by omega), fb_s, bq_166_9, if_pos (show p0 + c < n by omega), h40 (by omega), show (32 : Int32).toInt64 = lN 32 from nI_l (n := 32) (by omega), hv, bq_166_10, h5, nI_1, nI_1, p1]
      · obtain ⟨MM', N', p1, p2, p3, p4, p5, p6⟩ := fl_166b (d := d) (al := al) (p0 := p0) hD m (c + 1) (ai_up MM 0 35 (nI (p0 + (c + 1)))) N ai_un (by omega) (hg.up (by omega) _) fu_at (fun z => by omega) h36 h37 hl'
        rw [show p0 + (c + 1) = p0 + c + 1 by omega] at p1 p3 p5 p6
        refine ⟨MM', N', ?_, p2, p3, p4, p5, p6⟩
        rw [if_pos (fj_le (c := 8) (n := 8) rfl (by omega) (by omega)), bq_166_10, h5, nI_1, nI_1, p1]
/-- digits are read -/
theorem fl_166c {d : Nat} {al : Nat × Nat} {N : Nat → Nat → Int64} {n p0 : Nat} {b : Nat → Nat} {M : Nat → Nat → Int32} (hD : fp_Dm b n M) : ∀ (m c : Nat) (MM : Nat → Nat → Int32) (v1 : Value), p0 + c + m = n → fp_ag M MM → MM 0 35 = nI (p0 + c) → (c ≤ 3 → MM 0 39 = nI (fp_nu b p0 c)) → MM 0 36 = 0 → MM 0 37 = nI p0 → (∀ i, i < c → fp_di (b (p0 + i)) = true) → ∃ (MM' : Nat → Nat → Int32), ai_run (d + 1) 166 14 [.ref 0, v1, .int (nI c)] [] (hM al MM N) = some (.inl none, hM al MM' N) ∧ fp_ag M MM' ∧ MM' 0 35 = nI (fp_run fp_di b (p0 + c) m) ∧ MM' 0 37 = nI p0 ∧ MM' 0 36 = (if 3 < fp_run fp_di b (p0 + c) m - p0 then 0 else 3) ∧ (fp_run fp_di b (p0 + c) m - p0 ≤ 3 → MM' 0 39 = nI (fp_nu b p0 (fp_run fp_di b (p0 + c) m - p0)))
  | 0, c, MM, v1, h, hg, h5, h39, h36, h37, hl => by
    have hn := hD.1
    have e : fp_run fp_di b (p0 + c) 0 - p0 = c := by show p0 + c - p0 = c; omega
    rw [e]
    rw [bq_166_14, h5, fw_162 (hg.D hD) (by omega), fb_s, bq_166_15, if_neg (show ¬ p0 + c < n by omega), fw_164n, fb_s, bq_166_16, if_pos rfl, bq_166_19]
    by_cases c9 : 3 < c
    · refine ⟨MM, ?_, hg, h5, h37, by rw [if_pos c9]; exact h36, fun z => h39 z⟩
      rw [if_pos (fj_le (c := 4) (n := 4) rfl (by omega) (by omega)), bq_166_22]
    · refine ⟨ai_up MM 0 36 3, ?_, hg.up (by omega) _, h5, h37, by rw [if_neg c9]; exact fu_at, fun z => h39 z⟩
      rw [if_neg (fj_nle (c := 4) (n := 4) rfl (by omega) (by omega)), bq_166_22]
  | m + 1, c, MM, v1, h, hg, h5, h39, h36, h37, hl => by
    have hn := hD.1
    have hb := (hD.2.2 (p0 + c) (by omega)).2
    unfold fp_run
    rw [bq_166_14, h5, fw_162 (hg.D hD) (by omega), fb_s, bq_166_15, if_pos (show p0 + c < n by omega), fw_164 hb, fb_s, bq_166_16]
    cases hc : fp_di (b (p0 + c)) with
    | false =>
      have e : p0 + c - p0 = c := by omega
      rw [if_pos (show fn_bi false = 0 from rfl), bq_166_19, if_neg (show ¬ false = true by decide), e]
      by_cases c9 : 3 < c
      · refine ⟨MM, ?_, hg, h5, h37, by rw [if_pos c9]; exact h36, fun z => h39 z⟩
        rw [if_pos (fj_le (c := 4) (n := 4) rfl (by omega) (by omega)), bq_166_22]
      · refine ⟨ai_up MM 0 36 3, ?_, hg.up (by omega) _, h5, h37, by rw [if_neg c9]; exact fu_at, fun z => h39 z⟩
        rw [if_neg (fj_nle (c := 4) (n := 4) rfl (by omega) (by omega)), bq_166_22]
    | true =>
      have hbb := of_decide_eq_true hc
      have hl' : ∀ i, i < c + 1 → fp_di (b (p0 + i)) = true := fun i hi => by
        by_cases e : i = c
        · rw [e]; exact hc
        · exact hl i (by omega)
      rw [if_neg (show ¬ fn_bi true = 0 by decide), if_pos (show true = true from rfl)]
      by_cases c8 : c < 3
      · have hv : (10 : Int32) * nI (fp_nu b p0 c) + nI (b (p0 + c)) - 48 = nI (fp_nu b p0 (c + 1)) := by
          rw [show (10 : Int32) = nI 10 from rfl, show (48 : Int32) = nI 48 from rfl, pk_mul, nI_add, fi_sub (by omega)]
          congr 1
          show _ = 10 * fp_nu b p0 c + (b (p0 + c) - 48)
          omega
        obtain ⟨MM', p1, p2, p3, p4, p5, p6⟩ := fl_166c (d := d) (al := al) (N := N) (p0 := p0) hD m (c + 1) (ai_up (ai_up MM 0 39 (nI (fp_nu b p0 (c + 1)))) 0 35 (nI (p0 + (c + 1)))) ai_un (by omega) ((hg.up (by omega) _).up (by omega) _) fu_at (fun _ => rfl) h36 h37 hl'
        rw [show p0 + (c + 1) = p0 + c + 1 by omega] at p1 p3 p5 p6
        refine ⟨MM', ?_, p2, p3, p4, p5, p6⟩
        rw [if_neg (fj_nle (c := 3) (n := 3) rfl c8 (by omega)), h5, fw_162 (hg.D hD) (by omega), fb_s, bq_166_17, if_pos (show p0 + c < n by omega), h39 (by omega), hv, bq_166_18, show (ai_up MM 0 39 (nI (fp_nu b p0 (c + 1)))) 0 35 = nI (p0 + c) from h5, nI_1, nI_1, p1]
      · obtain ⟨MM', p1, p2, p3, p4, p5, p6⟩ := fl_166c (d := d) (al := al) (N := N) (p0 := p0) hD m (c + 1) (ai_up MM 0 35 (nI (p0 + (c + 1)))) ai_un (by omega) (hg.up (by omega) _) fu_at (fun z => by omega) h36 h37 hl'
        rw [show p0 + (c + 1) = p0 + c + 1 by omega] at p1 p3 p5 p6
        refine ⟨MM', ?_, p2, p3, p4, p5, p6⟩
        rw [if_pos (fj_le (c := 3) (n := 3) rfl (by omega) (by omega)), bq_166_18, h5, nI_1, nI_1, p1]
theorem fp_nu_le {b : Nat → Nat} {p : Nat} : ∀ m : Nat, (∀ i, i < m → fp_di (b (p + i)) = true) → fp_nu b p m < 10 ^ m
  | 0, _ => by show 0 < 1; omega
  | m + 1, h => by
    have h1 := fp_nu_le (b := b) (p := p) m (fun i hi => h i (by omega))
    have h2 := of_decide_eq_true (h m (by omega))
    show 10 * fp_nu b p m + (b (p + m) - 48) < 10 ^ (m + 1)
    rw [Nat.pow_succ]
    omega
/-- the next token, of the reference -/
theorem fw_166 {d : Nat} {al : Nat × Nat} {N : Nat → Nat → Int64} {n p : Nat} {b : Nat → Nat} {M : Nat → Nat → Int32} (hD : fp_Dm b n M) (hp : p ≤ n) (h5 : M 0 35 = nI p) {v1 v2 : Value} : ∃ (MM' : Nat → Nat → Int32) (N' : Nat → Nat → Int64), ai_run (d + 1) 166 0 [.ref 0, v1, v2] [] (hM al M N) = some (.inl none, hM al MM' N') ∧ fp_ag M MM' ∧ MM' 0 37 = nI (fp_en1 fp_bl b n p) ∧ fp_R (fp_tok b n (fp_en1 fp_bl b n p)) (MM' 0 36) (MM' 0 38) (MM' 0 39) (N' 0 40) ∧ (fp_tok b n (fp_en1 fp_bl b n p) ≠ -2 → MM' 0 35 = nI (fp_nx b n (fp_en1 fp_bl b n p))) := by
  have hn := hD.1
  obtain ⟨M1, a1, a2, a3⟩ := fl_166a (d := d) (al := al) (N := N) hD (n - p) p M v1 v2 (by omega) fp_ag.refl h5
  have hq := fp_en1_ge (P := fp_bl) (b := b) hp
  have a3' : M1 0 35 = nI (fp_en1 fp_bl b n p) := a3
  obtain ⟨q, hqe⟩ : ∃ q, q = fp_en1 fp_bl b n p := ⟨_, rfl⟩
  rw [← hqe] at hq a3' ⊢
  have g2 : fp_ag M (ai_up (ai_up (ai_up M1 0 37 (nI q)) 0 36 0) 0 38 0) := ((a2.up (by omega) _).up (by omega) _).up (by omega) _
  have e5 : (ai_up (ai_up (ai_up M1 0 37 (nI q)) 0 36 0) 0 38 0) 0 35 = nI q := a3'
  rw [a1, bq_166_2, a3', fw_162 (g2.D hD) (by omega), fb_s, bq_166_3]
  unfold fp_tok fp_nx
  by_cases hqn : n ≤ q
  · refine ⟨ai_up (ai_up (ai_up (ai_up M1 0 37 (nI q)) 0 36 0) 0 38 0) 0 36 1, N, ?_, g2.up (by omega) _, rfl, ?_, fun _ => ?_⟩
    · rw [if_neg (show ¬ q < n by omega), if_pos rfl, bq_166_22]
    · rw [if_pos hqn]; exact Or.inl ⟨rfl, rfl⟩
    · rw [if_pos hqn]; exact e5
  · have hb := (hD.2.2 q (by omega)).2
    rw [if_pos (show q < n by omega), if_neg (fi_m1 (by omega)), bq_166_4, fw_163 hb, fb_s, bq_166_5, if_neg hqn, if_neg hqn]
    cases hl : fp_le (b q) with
    | true =>
      have hall : ∀ i, i < fp_en1 fp_le b n q - q → fp_le (b (q + i)) = true := fun i hi => fp_run_all (n - q) q (q + i) (by omega) (by show q + i < fp_en1 fp_le b n q; omega)
      obtain ⟨M2, N2, b1, b2, b3, b4, b5, b6⟩ := fl_166b (d := d) (al := al) (p0 := q) hD (n - q) 0 (ai_up (ai_up (ai_up M1 0 37 (nI q)) 0 36 0) 0 38 0) (ai_uL N 0 40 (Int64.ofNat 0)) (.int (nI (b q))) (by omega) g2 e5 (fun _ => by simp [ai_uL, vp_updL]; rfl) rfl rfl (fun i hi => absurd hi (Nat.not_lt_zero _))
      rw [show fp_run fp_le b (q + 0) (n - q) = fp_en1 fp_le b n q from rfl] at b3 b5 b6
      refine ⟨M2, N2, ?_, b2, b4, ?_, fun _ => b3⟩
      · rw [if_neg (show ¬ fn_bi true = 0 by decide)]
        exact b1
      · rw [if_pos rfl]
        by_cases c8 : 8 < fp_en1 fp_le b n q - q
        · rw [if_pos c8] at b5 ⊢
          exact Or.inr (Or.inl ⟨rfl, b5⟩)
        · rw [if_neg c8] at b5 ⊢
          refine Or.inr (Or.inr (Or.inr (Or.inr ⟨fp_wt_in _, b5, fun j hj => ?_⟩)))
          rw [fp_wt_iff hj, b6 (by omega)]
          have h1 : fp_en b q (fp_en1 fp_le b n q - q) < 2 ^ 62 := by
            have := fp_e_lt (f := fun i => b (q + i) - 96) (fp_en1 fp_le b n q - q) (fun i hi => by have := of_decide_eq_true (hall i hi); omega)
            have h2 : 32 ^ (fp_en1 fp_le b n q - q) ≤ 32 ^ 8 := Nat.pow_le_pow_right (by omega) (by omega)
            unfold fp_en
            omega
          have h2 : ∀ j, j < 10 → fp_h j < 2 ^ 62 := by decide
          exact (fp_lN h1 (h2 j hj)).symm
    | false =>
      rw [if_pos (show fn_bi false = 0 from rfl), bq_166_12, fw_164 hb, fb_s, bq_166_13, if_neg (show ¬ false = true by decide), if_neg (show ¬ false = true by decide)]
      cases hd : fp_di (b q) with
      | true =>
        have hall : ∀ i, i < fp_en1 fp_di b n q - q → fp_di (b (q + i)) = true := fun i hi => fp_run_all (n - q) q (q + i) (by omega) (by show q + i < fp_en1 fp_di b n q; omega)
        obtain ⟨M2, b1, b2, b3, b4, b5, b6⟩ := fl_166c (d := d) (al := al) (N := N) (p0 := q) hD (n - q) 0 (ai_up (ai_up (ai_up (ai_up M1 0 37 (nI q)) 0 36 0) 0 38 0) 0 39 0) (.int (nI (b q))) (by omega) (g2.up (by omega) _) e5 (fun _ => rfl) rfl rfl (fun i hi => absurd hi (Nat.not_lt_zero _))
        rw [show fp_run fp_di b (q + 0) (n - q) = fp_en1 fp_di b n q from rfl] at b3 b5 b6
        refine ⟨M2, N, ?_, b2, b4, ?_, fun _ => b3⟩
        · rw [if_neg (show ¬ fn_bi true = 0 by decide)]
          exact b1
        · rw [if_pos rfl]
          by_cases c3 : 3 < fp_en1 fp_di b n q - q
          · rw [if_pos c3] at b5 ⊢
            exact Or.inr (Or.inl ⟨rfl, b5⟩)
          · rw [if_neg c3] at b5 ⊢
            have h1 := fp_nu_le (b := b) (p := q) (fp_en1 fp_di b n q - q) hall
            have h2 : 10 ^ (fp_en1 fp_di b n q - q) ≤ 10 ^ 3 := Nat.pow_le_pow_right (by omega) (by omega)
            exact Or.inr (Or.inr (Or.inr (Or.inl ⟨_, by omega, rfl, b5, b6 (by omega)⟩)))
      | false =>
        rw [if_pos (show fn_bi false = 0 from rfl), if_neg (show ¬ false = true by decide), if_neg (show ¬ false = true by decide)]
        have key : ∀ c, c < 256 → ((nI c = 60 ∨ nI c = 62 ∨ nI c = 61 ∨ nI c = 43 ∨ nI c = 42 ∨ nI c = 59) ↔ fp_sg c = true) := by decide +kernel
        have k := key (b q) (by omega)
        have e20 : ai_run (d + 1) 166 20 [.ref 0, .int (nI (b q)), .int 0] [] (hM al (ai_up (ai_up (ai_up M1 0 37 (nI q)) 0 36 0) 0 38 0) N) = if fp_sg (b q) = true then some (.inl none, hM al (ai_up (ai_up (ai_up (ai_up (ai_up (ai_up M1 0 37 (nI q)) 0 36 0) 0 38 0) 0 36 4) 0 38 (nI (b q))) 0 35 (nI (q + 1))) N) else some (.inl none, hM al (ai_up (ai_up (ai_up M1 0 37 (nI q)) 0 36 0) 0 38 0) N) := by
          have e21 : ∀ v : Value, ai_run (d + 1) 166 21 [.ref 0, .int (nI (b q)), v] [] (hM al (ai_up (ai_up (ai_up M1 0 37 (nI q)) 0 36 0) 0 38 0) N) = some (.inl none, hM al (ai_up (ai_up (ai_up (ai_up (ai_up (ai_up M1 0 37 (nI q)) 0 36 0) 0 38 0) 0 36 4) 0 38 (nI (b q))) 0 35 (nI (q + 1))) N) := fun v => by
            rw [bq_166_21, e5, nI_1, bq_166_22]
          rw [bq_166_20]
          by_cases c1 : nI (b q) = 60
          · rw [if_pos c1, e21, if_pos (k.mp (Or.inl c1))]
          by_cases c2 : nI (b q) = 62
          · rw [if_neg c1, if_pos c2, e21, if_pos (k.mp (Or.inr (Or.inl c2)))]
          by_cases c3 : nI (b q) = 61
          · rw [if_neg c1, if_neg c2, if_pos c3, e21, if_pos (k.mp (Or.inr (Or.inr (Or.inl c3))))]
          by_cases c4 : nI (b q) = 43
          · rw [if_neg c1, if_neg c2, if_neg c3, if_pos c4, e21, if_pos (k.mp (Or.inr (Or.inr (Or.inr (Or.inl c4)))))]
          by_cases c5 : nI (b q) = 42
          · rw [if_neg c1, if_neg c2, if_neg c3, if_neg c4, if_pos c5, e21, if_pos (k.mp (Or.inr (Or.inr (Or.inr (Or.inr (Or.inl c5))))))]
          by_cases c6 : nI (b q) = 59
          · rw [if_neg c1, if_neg c2, if_neg c3, if_neg c4, if_neg c5, if_pos c6, e21, if_pos (k.mp (Or.inr (Or.inr (Or.inr (Or.inr (Or.inr c6))))))]
          have hsg : ¬ fp_sg (b q) = true := fun z => by
            rcases k.mpr z with z | z | z | z | z | z
            · exact c1 z
            · exact c2 z
            · exact c3 z
            · exact c4 z
            · exact c5 z
            · exact c6 z
          rw [if_neg c1, if_neg c2, if_neg c3, if_neg c4, if_neg c5, if_neg c6, bq_166_22, if_neg hsg]
        rw [e20]
        by_cases hs : fp_sg (b q) = true
        · rw [if_pos hs, if_pos hs]
          exact ⟨_, N, rfl, ((g2.up (by omega) _).up (by omega) _).up (by omega) _, rfl, Or.inr (Or.inr (Or.inl ⟨b q, hs, rfl, rfl, rfl⟩)), fun _ => fu_at⟩
        · rw [if_neg hs, if_neg hs]
          exact ⟨_, N, rfl, g2, rfl, Or.inr (Or.inl ⟨rfl, rfl⟩), fun z => absurd rfl z⟩
