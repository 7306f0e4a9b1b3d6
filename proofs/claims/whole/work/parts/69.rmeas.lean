/-! routes: the class measures its rows, makes room, and traces -/
def fr_ag (L : List Nat) (M M' : Nat → Nat → Int32) : Prop := ∀ a, a ∉ L → M' a = M a
theorem fr_ag.refl {L : List Nat} {M : Nat → Nat → Int32} : fr_ag L M M := fun _ _ => rfl
theorem fr_ag.rw {L : List Nat} {M M' : Nat → Nat → Int32} (h : fr_ag L M M') {k : Nat} (hk : k ∈ L) (g : Nat → Int32) : fr_ag L M (fn_rw M' k g) := fun a ha => by
  rw [← h a ha]
  have hne : a ≠ k := fun e => ha (by rw [e]; exact hk)
  exact if_neg hne
theorem fr_ag.up {L : List Nat} {M M' : Nat → Nat → Int32} (h : fr_ag L M M') {k : Nat} (hk : k ∈ L) (i : Nat) (v : Int32) : fr_ag L M (ai_up M' k i v) := fun a ha => by
  rw [← h a ha]
  have hne : a ≠ k := fun e => ha (by rw [e]; exact hk)
  exact if_neg hne
theorem fr_ag.I {n np t : Nat} {M M' MM : Nat → Nat → Int32} (h : fn_I n np t M MM) (hg : fr_ag [27, 46, 47, 48, 49] M M') (h6 : M' 27 6 = 1) : fn_I n np t M' MM := by
  have e : M' = fn_rw (fn_rw (fn_rw (fn_rw (fn_rw M 27 (M' 27)) 46 (M' 46)) 47 (M' 47)) 48 (M' 48)) 49 (M' 49) := by
    funext a
    unfold fn_rw
    by_cases h9 : a = 49
    · subst h9; rfl
    · by_cases h8 : a = 48
      · subst h8; rfl
      · by_cases h7 : a = 47
        · subst h7; rfl
        · by_cases h6 : a = 46
          · subst h6; rfl
          · by_cases h5 : a = 27
            · subst h5; rfl
            · rw [if_neg h9, if_neg h8, if_neg h7, if_neg h6, if_neg h5]
              exact hg a (by simp [h9, h8, h7, h6, h5])
  rw [e]
  exact h.val h6
/-- the needs and the mud of the days -/
theorem fl_49a {d : Nat} {al : Nat × Nat} {kl n np t D : Nat} {M MM : Nat → Nat → Int32} (h : fn_I n np t M MM) (hD : t + D ≤ 200) (hD2 : D ≤ 21) (hD1 : 1 ≤ D) (c3 : M 45 3 = nI t) (c4 : M 45 4 = nI (D - 1)) : ∀ (m k : Nat) (M' : Nat → Nat → Int32) (v2 : Value), k + m = D → fr_ag [27, 46, 47, 48, 49] M M' → M' 27 6 = 1 → M' 49 = M 49 → (∀ j, j < k → M' 46 j = nI (fn_need MM (t + j)) ∧ M' 47 j = MM 15 (t + j)) → ∃ M2 : Nat → Nat → Int32, ai_run (d + 4) 49 1 [.ref 45, .int (nI k), v2] [] (hC al kl M') = ai_run (d + 4) 49 4 [.ref 45, .int (nI D), ai_un] [] (hC al kl M2) ∧ fr_ag [27, 46, 47, 48, 49] M M2 ∧ M2 27 6 = 1 ∧ M2 49 = M 49 ∧ ∀ j, j < D → M2 46 j = nI (fn_need MM (t + j)) ∧ M2 47 j = MM 15 (t + j)
  | 0, k, M', v2, hk, hg, h6, h49, hj => by
    have : k = D := by omega
    subst this
    refine ⟨M', ?_, hg, h6, h49, hj⟩
    rw [bq_49_1, show M' 45 4 = nI (k - 1) from (congrFun (hg 45 (by decide)) 4).trans c4, if_pos (nI_lt (by omega) (by omega))]
  | m + 1, k, M', v2, hk, hg, h6, h49, hj => by
    have hI := fr_ag.I h hg h6
    obtain ⟨g, a1, a2⟩ := fw_81 (d := d) (al := al) (kl := kl) (v2 := ai_un) (v3 := ai_un) (v4 := ai_un) (v5 := ai_un) hI (day := t + k) (by omega)
    have e3 : M' 45 3 = nI t := (congrFun (hg 45 (by decide)) 3).trans c3
    obtain ⟨M2, b1, b2, b3, b4, b5⟩ := fl_49a (d := d) (al := al) (kl := kl) h hD hD2 hD1 c3 c4 m (k + 1) (ai_up (ai_up (fn_rw M' 27 g) 46 k (nI (fn_need MM (t + k)))) 47 k (MM 15 (t + k))) ai_un (by omega) (((hg.rw (by decide) g).up (by decide) _ _).up (by decide) _ _) a1 h49 (fun j hjk => by
      by_cases e : j = k
      · subst e
        exact ⟨pk_us, pk_us⟩
      · have := hj j (by omega)
        refine ⟨?_, ?_⟩
        · show upd (M' 46) k _ j = _
          rw [pk_un e]; exact this.1
        · show upd (M' 47) k _ j = _
          rw [pk_un e]; exact this.2)
    refine ⟨M2, ?_, b2, b3, b4, b5⟩
    have hcal : (fn_rw M' 27 g) 21 (t + k) = MM 15 (t + k) := (hI.cal.2 (t + k) (by omega)).1
    rw [bq_49_1, show M' 45 4 = nI (D - 1) from (congrFun (hg 45 (by decide)) 4).trans c4, if_neg (nI_nlt (by omega) (by omega)), e3, nI_add, a2, fb_s, bq_49_2, fi_in (by omega), decide_eq_true (by omega), cond_true, nI_clamp (by omega), show (fn_rw M' 27 g) 45 3 = nI t from e3, nI_add, fw_2 (by omega), fb_s, bq_49_3, fi_in (by omega), decide_eq_true (by omega), cond_true, nI_clamp (by omega), nI_1, show (ai_up (fn_rw M' 27 g) 46 k (nI (fn_need MM (t + k)))) 21 (t + k) = MM 15 (t + k) from hcal, b1]
theorem fw_51 {d : Nat} {al : Nat × Nat} {kl n np t k p : Nat} {M MM : Nat → Nat → Int32} (h : fn_I n np t M MM) (c3 : M 45 3 = nI t) (hk : t + k < 200) {v3 : Value} : ai_run (d + 2) 51 0 [.ref 45, .int (nI p), .int (nI k), v3] [] (hC al kl M) = some (.inl (some (.int (fn_bi ((fr_of MM np t).2.2.2.1 p k)))), hC al kl M) := by
  have hc : M 22 (t + k) = MM 16 (t + k) := (h.cal.2 (t + k) hk).2.1
  rw [bq_51_0, c3, nI_add, fw_3 hk, fb_s, bq_51_1, hc, show (fr_of MM np t).2.2.2.1 p k = decide (MM 16 (t + k) = -1 ∨ MM 16 (t + k) = nI p) from rfl]
  by_cases c1 : MM 16 (t + k) = -1
  · rw [if_pos c1, bq_51_2, bq_51_4, if_pos (Or.inr rfl), decide_eq_true (Or.inl c1)]
    rfl
  · rw [if_neg c1]
    by_cases c2 : MM 16 (t + k) = nI p
    · rw [if_pos c2, bq_51_2, bq_51_4, if_pos (Or.inr rfl), decide_eq_true (Or.inr c2)]
      rfl
    · rw [if_neg c2, bq_51_3, bq_51_4, if_pos (Or.inl rfl), decide_eq_false (fun z => z.elim c1 c2)]
      rfl
theorem fl_50 {d : Nat} {al : Nat × Nat} {kl n np t D p : Nat} {M MM : Nat → Nat → Int32} (h : fn_I n np t M MM) (hD : t + D ≤ 200) (hD2 : D ≤ 21) (hD1 : 1 ≤ D) (c3 : M 45 3 = nI t) (c4 : M 45 4 = nI (D - 1)) (hN : ∀ j, j < D → M 46 j = nI (fn_need MM (t + j))) : ∀ (m k l : Nat) (v1 : Value), k + m = D → l ≤ 1000000 → ai_run (d + 3) 50 2 [.ref 45, v1, .int (nI p), .int (nI l), .int (nI k)] [] (hC al kl M) = some (.inl (some (.int (nI (fr_x (fr_of MM np t) m k p l) - 1))), hC al kl M)
  | 0, k, l, v1, hk, hl => by
    have : k = D := by omega
    subst this
    rw [bq_50_2, c4, if_pos (nI_lt (by omega) (by omega)), bq_50_4]
    rfl
  | m + 1, k, l, v1, hk, hl => by
    have hn := fn_need_le MM (t + k)
    show _ = some (Sum.inl (some (Value.int (nI (if (fr_of MM np t).2.2.2.1 p k = true ∧ fn_need MM (t + k) ≤ l then fr_x (fr_of MM np t) m (k + 1) p (l - fn_need MM (t + k)) else k) - 1))), hC al kl M)
    rw [bq_50_2, c4, if_neg (nI_nlt (by omega) (by omega)), fi_in (by omega), decide_eq_true (by omega), cond_true, nI_clamp (by omega), hN k (by omega)]
    by_cases c1 : l < fn_need MM (t + k)
    · rw [if_pos (nI_lt c1 (by omega)), bq_50_4, if_neg (fun z => by have := z.2; omega)]
    · rw [if_neg (nI_nlt (by omega) (by omega)), fw_51 h c3 (by omega), fb_s, bq_50_3]
      cases ho : (fr_of MM np t).2.2.2.1 p k with
      | false => rw [if_pos (show fn_bi false = 0 from rfl), bq_50_4, if_neg (fun z => absurd z.1 (by decide))]
      | true => rw [if_neg (show ¬ fn_bi true = 0 by decide), fi_in (by omega), decide_eq_true (by omega), cond_true, nI_clamp (by omega), hN k (by omega), fi_sub (by omega), nI_1, fl_50 h hD hD2 hD1 c3 c4 hN m (k + 1) (l - fn_need MM (t + k)) _ (by omega) (by omega), if_pos ⟨rfl, by omega⟩]
theorem fw_50 {d : Nat} {al : Nat × Nat} {kl n np t D p k : Nat} {M MM : Nat → Nat → Int32} (h : fn_I n np t M MM) (hD : t + D ≤ 200) (hD2 : D ≤ 21) (hD1 : 1 ≤ D) (c3 : M 45 3 = nI t) (c4 : M 45 4 = nI (D - 1)) (hN : ∀ j, j < D → M 46 j = nI (fn_need MM (t + j))) (hk : k < D) (hp : p < np) {v3 v4 : Value} : ai_run (d + 3) 50 0 [.ref 45, .int (nI k), .int (nI p), v3, v4] [] (hC al kl M) = some (.inl (some (.int (nI (fr_x (fr_of MM np t) (D - k) k p (fn_sp MM p)) - 1))), hC al kl M) := by
  rw [bq_50_0, fw_38 h hp, fb_s, bq_50_1]
  exact fl_50 h hD hD2 hD1 c3 c4 hN (D - k) k (fn_sp MM p) _ (by omega) (fn_sp_le h (by have := h.land.1.1; omega))
theorem fl_49b {d : Nat} {al : Nat × Nat} {kl n np t D p : Nat} {M MM : Nat → Nat → Int32} (h : fn_I n np t M MM) (hD : t + D ≤ 200) (hD2 : D ≤ 21) (hD1 : 1 ≤ D) (c3 : M 45 3 = nI t) (c4 : M 45 4 = nI (D - 1)) (hN : ∀ j, j < D → M 46 j = nI (fn_need MM (t + j))) (hp : p < np) : ∀ (m k : Nat) (r : Nat → Int32), k + m = D → ∃ r' : Nat → Int32, ai_run (d + 4) 49 6 [.ref 45, .int (nI p), .int (nI k)] [] (hC al kl (fn_rw M 48 r)) = ai_run (d + 4) 49 8 [.ref 45, .int (nI p), .int (nI D)] [] (hC al kl (fn_rw M 48 r')) ∧ (∀ j, k ≤ j → j < D → r' (9 * j + p) = nI (fr_x (fr_of MM np t) (D - j) j p (fn_sp MM p)) - 1) ∧ ∀ j, (∀ i, k ≤ i → j ≠ 9 * i + p) → r' j = r j
  | 0, k, r, hk => by
    have : k = D := by omega
    subst this
    refine ⟨r, ?_, fun j h1 h2 => by omega, fun j _ => rfl⟩
    rw [bq_49_6, show (fn_rw M 48 r) 45 4 = nI (k - 1) from c4, if_pos (nI_lt (by omega) (by omega))]
  | m + 1, k, r, hk => by
    have hnp := h.land.1.1
    have hI : fn_I n np t (fn_rw M 48 r) MM := h
    obtain ⟨r', b1, b2, b3⟩ := fl_49b (d := d) (al := al) (kl := kl) h hD hD2 hD1 c3 c4 hN hp m (k + 1) (upd r (9 * k + p) (nI (fr_x (fr_of MM np t) (D - k) k p (fn_sp MM p)) - 1)) (by omega)
    refine ⟨r', ?_, fun j h1 h2 => ?_, fun j hj => ?_⟩
    · rw [bq_49_6, show (fn_rw M 48 r) 45 4 = nI (D - 1) from c4, if_neg (nI_nlt (by omega) (by omega)), fw_50 hI hD hD2 hD1 c3 c4 hN (by omega) hp, fb_s, bq_49_7, fi_w.1, fi_in (by omega), decide_eq_true (by omega), cond_true, nI_clamp (by omega), fn_rw_up, nI_1, b1]
    · by_cases e : j = k
      · subst e; rw [b3 _ (fun i hi => by omega), pk_us]
      · exact b2 j (by omega) h2
    · rw [b3 j (fun i hi => hj i (by omega)), pk_un (hj k (Nat.le_refl _))]
theorem fl_49c {d : Nat} {al : Nat × Nat} {kl n np t D : Nat} {M MM : Nat → Nat → Int32} (h : fn_I n np t M MM) (hD : t + D ≤ 200) (hD2 : D ≤ 21) (hD1 : 1 ≤ D) (c3 : M 45 3 = nI t) (c4 : M 45 4 = nI (D - 1)) (hN : ∀ j, j < D → M 46 j = nI (fn_need MM (t + j))) : ∀ (m p : Nat) (r : Nat → Int32) (v2 : Value), p + m = np → (∀ k p', k < D → p' < p → r (9 * k + p') = nI (fr_x (fr_of MM np t) (D - k) k p' (fn_sp MM p')) - 1) → ∃ r' : Nat → Int32, ai_run (d + 4) 49 5 [.ref 45, .int (nI p), v2] [] (hC al kl (fn_rw M 48 r)) = some (.inl none, hC al kl (fn_rw M 48 r')) ∧ ∀ k p', k < D → p' < np → r' (9 * k + p') = nI (fr_x (fr_of MM np t) (D - k) k p' (fn_sp MM p')) - 1
  | 0, p, r, v2, hp, hr => by
    have : p = np := by omega
    subst this
    refine ⟨r, ?_, hr⟩
    rw [bq_49_5, show (fn_rw M 48 r) 9 0 = nI p from h.land.1.2.1, if_pos Int32.le_rfl, bq_49_9]
  | m + 1, p, r, v2, hp, hr => by
    have hnp := h.land.1.1
    obtain ⟨r1, a1, a2, a3⟩ := fl_49b (d := d) (al := al) (kl := kl) h hD hD2 hD1 c3 c4 hN (p := p) (by omega) D 0 r (by omega)
    obtain ⟨r', b1, b2⟩ := fl_49c (d := d) (al := al) (kl := kl) h hD hD2 hD1 c3 c4 hN m (p + 1) r1 ai_un (by omega) (fun k p' hk hp' => by
      by_cases e : p' = p
      · rw [e]; exact a2 k (Nat.zero_le _) hk
      · rw [a3 _ (fun i _ => by omega)]; exact hr k p' hk (by omega))
    refine ⟨r', ?_, b2⟩
    rw [bq_49_5, show (fn_rw M 48 r) 9 0 = nI np from h.land.1.2.1, if_neg (nI_ge (by omega) (by omega))]
    refine (show _ = _ from a1).trans ?_
    rw [bq_49_8, nI_1, b1]
theorem fw_49 {d : Nat} {al : Nat × Nat} {kl n np t D : Nat} {M MM : Nat → Nat → Int32} (h : fn_I n np t M MM) (hD : t + D ≤ 200) (hD2 : D ≤ 21) (hD1 : 1 ≤ D) (c3 : M 45 3 = nI t) (c4 : M 45 4 = nI (D - 1)) {v1 v2 : Value} : ∃ M2 : Nat → Nat → Int32, ai_run (d + 4) 49 0 [.ref 45, v1, v2] [] (hC al kl M) = some (.inl none, hC al kl M2) ∧ fr_ag [27, 46, 47, 48, 49] M M2 ∧ M2 27 6 = 1 ∧ M2 49 = M 49 ∧ (∀ j, j < D → M2 46 j = nI (fn_need MM (t + j)) ∧ M2 47 j = MM 15 (t + j)) ∧ ∀ k p', k < D → p' < np → M2 48 (9 * k + p') = nI (fr_x (fr_of MM np t) (D - k) k p' (fn_sp MM p')) - 1 := by
  obtain ⟨M1, a1, a2, a3, a4, a5⟩ := fl_49a (d := d) (al := al) (kl := kl) h hD hD2 hD1 c3 c4 D 0 M ai_un (by omega) fr_ag.refl h.rul.1 rfl (fun j hj => absurd hj (Nat.not_lt_zero _))
  have hI := fr_ag.I h a2 a3
  obtain ⟨r', b1, b2⟩ := fl_49c (d := d) (al := al) (kl := kl) hI hD hD2 hD1 ((congrFun (a2 45 (by decide)) 3).trans c3) ((congrFun (a2 45 (by decide)) 4).trans c4) (fun j hj => (a5 j hj).1) np 0 (M1 48) ai_un (by omega) (fun k p' _ hp' => absurd hp' (Nat.not_lt_zero _))
  rw [fn_rw_id] at b1
  refine ⟨fn_rw M1 48 r', ?_, a2.rw (by decide) r', a3, a4, a5, b2⟩
  rw [bq_49_0]
  refine (show _ = _ from a1).trans ?_
  rw [bq_49_4]
  exact b1
/-! room -/
def fr_sz (np : Nat) : Nat := 2 ^ (np - 1) * np * 21
theorem fb_sz : ∀ np, np < 10 → 1 ≤ np → ai_mrsz (nI np) = nI (fr_sz np) ∧ fr_sz np ≤ 48384 := by decide +kernel
theorem fb_s2 : ∀ i, i < 10 → ∀ j, j < 10 → fr_sz i < fr_sz j → 2 * fr_sz i ≤ fr_sz j := by decide +kernel
theorem fb_mk : ∀ m, m < 600 → (nI m + (1 : Int32)) - (nI m + (1 : Int32)) / (65536 : Int32) * (65536 : Int32) = nI (m + 1) := by decide +kernel
theorem RC_49 : ∀ k j, RC k j = some 49 → k = 45 ∧ j = 9 := by
  intro k j h
  have hk : k < 60 := by
    apply Classical.byContradiction
    intro hc
    have e : RCt[k]? = none := List.getElem?_eq_none (by have : RCt.length ≤ 60 := by decide
                                                         omega)
    unfold RC at h
    rw [e] at h
    exact absurd h (by simp)
  have hj : j < 60 := by
    apply Classical.byContradiction
    intro hc
    have el : ∀ k, k < 60 → ((RCt[k]?).getD []).length ≤ 60 := by decide
    have e : ((RCt[k]?).getD [])[j]? = none := List.getElem?_eq_none (by have := el k hk; omega)
    unfold RC at h
    rw [e] at h
    exact absurd h (by simp)
  have key : ∀ k, k < 60 → ∀ j, j < 60 → RC k j = some 49 → k = 45 ∧ j = 9 := by decide +kernel
  exact key k hk j hj h
theorem fw_303 {al : Nat × Nat} {kl np : Nat} {M : Nat → Nat → Int32} (hn : np ≤ 9) (h1 : 1 ≤ np) (hkl : kl < 2 ^ 31) (h9 : M 9 0 = nI np) : ai_prim 303 [.ref 45] (hC al kl M) = some (.inl none, if kl < fr_sz np then hC (al.1 + 1, al.2 + fr_sz np) (fr_sz np) (fn_rw M 49 (fun _ => 0)) else hC al kl M) := by
  obtain ⟨e, hs⟩ := fb_sz np (by omega) h1
  show ai_mr (hC al kl M) = _
  have hrow : ai_row (hC al kl M) 49 4 4 = some kl := rfl
  have ok : ai_mrOK (hC al kl M) := by
    refine ⟨rfl, rfl, rfl, rfl, by rw [hrow]; exact Option.some_ne_none _, ?_, RC_49⟩
    show ai_in (ai_mrsz (M 9 0)) 1000001 = true
    rw [h9, e, fi_in (by omega)]
    exact decide_eq_true (by omega)
  unfold ai_mr
  rw [if_pos ok]
  show some (Sum.inl none, if Int32.ofNat ((ai_row (hC al kl M) 49 4 4).getD 0) < ai_mrsz (M 9 0) then ((al.1 + 1, al.2 + (ai_mrsz (M 9 0)).toNatClampNeg), (SC kl).set 49 (4, (ai_mrsz (M 9 0)).toNatClampNeg), RC, (fun a => if a = 49 then (fun _ => 0) else M a), fun _ _ => 0) else hC al kl M) = _
  rw [hrow, h9, e, nI_clamp (by omega)]
  by_cases c : kl < fr_sz np
  · rw [if_pos c, if_pos (show Int32.ofNat ((some kl).getD 0) < nI (fr_sz np) from nI_lt c (by omega))]
    rfl
  · rw [if_neg c, if_neg (show ¬ Int32.ofNat ((some kl).getD 0) < nI (fr_sz np) from nI_nlt (a := kl) (by omega) (by omega))]
/-! the way -/
theorem fn_rw_up2 {M : Nat → Nat → Int32} {a b i : Nat} {f g : Nat → Int32} {v : Int32} (h : a ≠ b) : ai_up (fn_rw (fn_rw M a f) b g) a i v = fn_rw (fn_rw M a (upd f i v)) b g := by
  funext c
  unfold ai_up fn_rw
  by_cases h1 : c = a
  · subst h1; rw [if_pos rfl, if_neg h, if_neg h, if_pos rfl, if_pos rfl]
  · rw [if_neg h1, if_neg h1]
    by_cases h2 : c = b
    · subst h2; rw [if_pos rfl, if_pos rfl]
    · rw [if_neg h2, if_neg h2, if_neg h1]
theorem fl_58 {al : Nat × Nat} {np t D st mk kl m i p s b l : Nat} {A : fr_A} {M : Nat → Nat → Int32} (hK : fr_Kc np t D st mk kl A M) (hi : i + m + 2 = D) (hp : p < np) (hs : s < 2 ^ np) (hst : s.testBit st = true) (hb : b ≤ i) (hx : fr_x A (D - b) b p (A.2.2.1 p) = fr_x A (D - (i + 1)) (i + 1) p l) (hf : fr_G A (m + 1) i p s l ≠ fr_F) : ∀ (n q : Nat) (g : Nat → Int32) (v7 : Value), q + n = np → fr_M np D st mk kl A g → ∃ g' : Nat → Int32, ai_run 198 58 1 [.ref 45, .int (nI i), .int (nI b), .int (nI p), .int (nI s), .int (nI (fr_G A (m + 1) i p s l)), .int (nI q), v7] [] (hC al kl (fn_rw M 49 g)) = some (.inl (some (.int (nI (if fr_fd (fr_pk A m i p s l) q n < np then fr_fd (fr_pk A m i p s l) q n else p)))), hC al kl (fn_rw M 49 g')) ∧ fr_M np D st mk kl A g'
  | 0, q, g, v7, h, hM => by
    have : q = np := by omega
    subst this
    refine ⟨g, ?_, hM⟩
    rw [bq_58_1, show (fn_rw M 49 g) 9 0 = nI q from hK.2.1.2.2.2, if_pos Int32.le_rfl, bq_58_6, show fr_fd (fr_pk A m i p s l) q 0 = q from rfl, if_neg (Nat.lt_irrefl q)]
  | n + 1, q, g, v7, h, hM => by
    obtain ⟨⟨k1, k2, k3, k4, k5, k6, k7, k8, k9⟩, ⟨c1, c2, c3, c4⟩, kw, kx, kh⟩ := id hK
    have hL := fr_all (al := al) hK 21
    have hcc : fr_c A.1 s ≤ A.1 := fr_c_le A.1
    have hG := (fr_G_sm kh (m + 1) i p s l).resolve_left hf
    have step : ∀ (r : Nat) (g1 : Nat → Int32), r < 1000 → fr_M np D st mk kl A g1 → (r = fr_G A (m + 1) i p s l ↔ fr_pk A m i p s l q = true) → ∃ g' : Nat → Int32, ai_run 198 58 4 [.ref 45, .int (nI i), .int (nI b), .int (nI p), .int (nI s), .int (nI (fr_G A (m + 1) i p s l)), .int (nI q), ai_un] [.int (nI r)] (hC al kl (fn_rw M 49 g1)) = some (.inl (some (.int (nI (if fr_fd (fr_pk A m i p s l) q (n + 1) < np then fr_fd (fr_pk A m i p s l) q (n + 1) else p)))), hC al kl (fn_rw M 49 g')) ∧ fr_M np D st mk kl A g' := by
      intro r g1 hr hM1 hiff
      rw [bq_58_4, show fr_fd (fr_pk A m i p s l) q (n + 1) = if fr_pk A m i p s l q = true then q else fr_fd (fr_pk A m i p s l) (q + 1) n from rfl]
      by_cases c : fr_pk A m i p s l q = true
      · refine ⟨g1, ?_, hM1⟩
        rw [if_pos (by rw [hiff.mpr c]), if_pos c, if_pos (by omega)]
      · obtain ⟨g', b1, b2⟩ := fl_58 (al := al) hK hi hp hs hst hb hx hf n (q + 1) g1 ai_un (by omega) hM1
        refine ⟨g', ?_, b2⟩
        rw [if_neg (fun z => c (hiff.mp ((nI_eq (by omega) (by omega)).mp z))), bq_58_5, nI_1, b1, if_neg c]
    rw [bq_58_1, show (fn_rw M 49 g) 9 0 = nI np from c4, if_neg (nI_ge (by omega) (by omega))]
    by_cases hqp : q = p
    · have hxg := fr_x_ge (A := A) (D - (i + 1)) (i + 1) p l
      obtain ⟨g1, a1, a2, -⟩ := fw_52 (d := 108) (n := 21) (v5 := ai_un) (v6 := ai_un) (v7 := ai_un) hK hL hp hs hst (b := b) (j := i + 1) (by omega) (by omega) (by omega) g hM
      have er : fr_R A m (i + 1) p s l = if fr_x A (D - b) b p (A.2.2.1 p) = D then 0 else fr_ms (fun j => fr_E A (D - 1 - j) j p s) (i + 1) (fr_x A (D - b) b p (A.2.2.1 p) - (i + 1)) := by
        rw [fr_row, show m + 1 = D - (i + 1) by omega, show i + 1 + m + 1 = D by omega, show i + 1 + m = D - 1 by omega, hx]
      rw [← er] at a1
      have hc := fr_cp_le (fr_R A m (i + 1) p s l)
      obtain ⟨g', b1, b2⟩ := step (fr_cp (fr_R A m (i + 1) p s l)) g1 (by omega) a2 (by
        unfold fr_pk
        rw [if_pos hqp, decide_eq_true_iff]
        unfold fr_cp
        omega)
      refine ⟨g', ?_, b2⟩
      rw [if_pos (by rw [hqp]), nI_1, a1, fb_s, bq_58_2, b1]
    · have hne : ¬ nI q = nI p := fun z => hqp ((nI_eq (by omega) (by omega)).mp z)
      obtain ⟨r, g1, a1, a2, -, a4, a5⟩ := fw_54 (d := 106) (n := 21) (B := 255) (v6 := ai_un) hK hL (i := i) (by omega) (by omega) hp (show q < np by omega) hs hst (Nat.le_refl _) g hM
      obtain ⟨g', b1, b2⟩ := step r g1 a4 a2 (by
        rw [show D - 2 - i = m by omega] at a5
        unfold fr_pk
        rw [if_neg hqp, decide_eq_true_iff]
        unfold fr_cp at a5
        omega)
      refine ⟨g', ?_, b2⟩
      rw [if_neg hne, bq_58_3, show (255 : Int32) = nI 255 from rfl, a1, fb_s, b1]
theorem fl_57 {al : Nat × Nat} {np t D st mk kl : Nat} {A : fr_A} {M : Nat → Nat → Int32} (hK : fr_Kc np t D st mk kl A M) : ∀ (m i p s b l : Nat) (r g : Nat → Int32) (v1 v7 : Value), i + m + 1 = D → p < np → s < 2 ^ np → s.testBit st = true → s.testBit p = true → b ≤ i → fr_x A (D - b) b p (A.2.2.1 p) = fr_x A (D - (i + 1)) (i + 1) p l → fr_G A m i p s l ≠ fr_F → fr_M np D st mk kl A g → ∃ r' g' : Nat → Int32, ai_run 199 57 1 [.ref 45, v1, .int (nI p), .int (nI s), .int (nI b), .int (nI (fr_G A m i p s l)), .int (nI i), v7] [] (hC al kl (fn_rw (fn_rw M 50 r) 49 g)) = some (.inl none, hC al kl (fn_rw (fn_rw M 50 r') 49 g')) ∧ fr_M np D st mk kl A g' ∧ (∀ j, i < j → j < D → r' j = nI (fr_st A m i p s l j)) ∧ ∀ j, j ≤ i → r' j = r j
  | 0, i, p, s, b, l, r, g, v1, v7, h, hp, hs, hst, hsp, hb, hx, hf, hM => by
    have hD := hK.1.2.2.2.1
    refine ⟨r, g, ?_, hM, fun j h1 h2 => by omega, fun j _ => rfl⟩
    rw [bq_57_1, show (fn_rw (fn_rw M 50 r) 49 g) 45 4 = nI (D - 1) from hK.2.1.1, if_pos (nI_le (by omega) (by omega)), bq_57_5]
  | m + 1, i, p, s, b, l, r, g, v1, v7, h, hp, hs, hst, hsp, hb, hx, hf, hM => by
    obtain ⟨⟨k1, k2, k3, k4, k5, k6, k7, k8, k9⟩, ⟨c1, c2, c3, c4⟩, kw, kx, kh⟩ := id hK
    have hKr : fr_Kc np t D st mk kl A (fn_rw M 50 r) := hK
    obtain ⟨n1, n2⟩ := fr_nx_at (m := m) (k := i) (l := l) (show p < A.1 by omega) hsp hf
    obtain ⟨g1, a1, a2⟩ := fl_58 (al := al) hKr (by omega) hp hs hst hb hx hf np 0 g ai_un (by omega) hM
    have en : fr_fd (fr_pk A m i p s l) 0 np = fr_nx A m i p s l := by rw [← k7]; rfl
    rw [en, if_pos (show fr_nx A m i p s l < np by omega)] at a1
    have hG := (fr_G_sm kh (m + 1) i p s l).lt (by omega)
    rw [bq_57_1, show (fn_rw (fn_rw M 50 r) 49 g) 45 4 = nI (D - 1) from c1, if_neg (nI_ge (by omega) (by omega)), bq_58_0, show (0 : Int32) = nI 0 from rfl, a1, fb_s, bq_57_2]
    by_cases hq : fr_nx A m i p s l = p
    · obtain ⟨s1, s2, s3⟩ := fr_stay (show p < A.1 by omega) hsp hf hq
      have hx' : fr_x A (D - b) b p (A.2.2.1 p) = fr_x A (D - (i + 1 + 1)) (i + 1 + 1) p (l - A.2.1 (i + 1)) := by
        rw [hx, show D - (i + 1) = D - (i + 1 + 1) + 1 by omega]
        exact if_pos ⟨s1, s2⟩
      obtain ⟨r', g', b1, b2, b3, b4⟩ := fl_57 (al := al) hK m (i + 1) p s b (l - A.2.1 (i + 1)) (upd r (i + 1) (nI p)) g1 ai_un ai_un (by omega) hp hs hst hsp (by omega) hx' (by rw [s3]; exact hf) a2
      refine ⟨r', g', ?_, b2, fun j h1 h2 => ?_, fun j hj => ?_⟩
      · rw [hq, if_pos rfl, bq_57_4, nI_1, fi_in (by omega), decide_eq_true (by omega), cond_true, nI_clamp (by omega), fn_rw_up2 (by decide), ← s3]
        exact b1
      · show r' j = nI (if j ≤ i then p else if fr_nx A m i p s l = p then fr_st A m (i + 1) p s (l - A.2.1 (i + 1)) j else _)
        rw [if_neg (by omega), if_pos hq]
        by_cases hj : j = i + 1
        · subst hj
          rw [b4 _ (Nat.le_refl _), pk_us]
          cases m with
          | zero => rfl
          | succ m => exact congrArg nI (if_pos (Nat.le_refl _)).symm
        · exact b3 j (by omega) h2
      · rw [b4 j (by omega), pk_un (by omega)]
    · obtain ⟨q, hqe⟩ : ∃ q, q = fr_nx A m i p s l := ⟨_, rfl⟩
      rw [← hqe] at hq n1 ⊢
      obtain ⟨q1, q2, q3, q4, q5, q6, q7⟩ := fr_move (show p < A.1 by omega) hsp hf hqe.symm hq
      have hne : ¬ nI q = nI p := fun z => hq ((nI_eq (by omega) (by omega)).mp z)
      have hh := kh p q i
      have hKg : fr_Kc np t D st mk kl A (fn_rw (fn_rw M 50 r) 49 g1) := hK
      have hx' : fr_x A (D - (i + 1)) (i + 1) q (A.2.2.1 q) = fr_x A (D - (i + 1 + 1)) (i + 1 + 1) q (A.2.2.1 q - A.2.1 (i + 1)) := by
        rw [show D - (i + 1) = D - (i + 1 + 1) + 1 by omega]
        exact if_pos ⟨q4, q5⟩
      obtain ⟨r', g', b1, b2, b3, b4⟩ := fl_57 (al := al) hK m (i + 1) q (s ||| 2 ^ q) (i + 1) (A.2.2.1 q - A.2.1 (i + 1)) (upd r (i + 1) (nI q)) g1 ai_un ai_un (by omega) (by omega) (fb_or hs (by omega)) (by rw [Nat.testBit_or, hst, Bool.true_or]) (by rw [Nat.testBit_or, Nat.testBit_two_pow, decide_eq_true rfl, Bool.or_true]) (Nat.le_refl _) hx' q7 a2
      refine ⟨r', g', ?_, b2, fun j h1 h2 => ?_, fun j hj => ?_⟩
      · rw [if_neg hne, fi_in (by omega), decide_eq_true (by omega), cond_true, nI_clamp (by omega), fr_37 hKg (by omega) hp (by omega), fb_s, bq_57_3, fb_o s (fb_512 k1 hs) q (by omega), nI_1, ← q6, fi_sub (by omega), Nat.add_sub_cancel_left, bq_57_4, nI_1, fi_in (by omega), decide_eq_true (by omega), cond_true, nI_clamp (by omega), fn_rw_up2 (by decide)]
        exact b1
      · show r' j = nI (if j ≤ i then p else if fr_nx A m i p s l = p then _ else fr_st A m (i + 1) (fr_nx A m i p s l) (s ||| 2 ^ fr_nx A m i p s l) (A.2.2.1 (fr_nx A m i p s l) - A.2.1 (i + 1)) j)
        rw [← hqe, if_neg (by omega), if_neg hq]
        by_cases hj : j = i + 1
        · subst hj
          rw [b4 _ (Nat.le_refl _), pk_us]
          cases m with
          | zero => rfl
          | succ m => exact congrArg nI (if_pos (Nat.le_refl _)).symm
        · exact b3 j (by omega) h2
      · rw [b4 j (by omega), pk_un (by omega)]
