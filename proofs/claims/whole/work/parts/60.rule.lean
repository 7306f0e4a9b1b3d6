/-! what is eaten: the ordinance in force, a rule's tests and sum -/
/-- the number that a name stands for -/
def fn_V (MM : Nat → Nat → Int32) (h day x : Nat) : Int32 := if x = 0 then MM 1 h else if x = 1 then MM 2 h else if x = 2 then MM 3 h else if x = 3 then nI day else if x = 4 then MM 15 day else if MM 16 day = -1 then 0 else 1
def fn_tst (v s u : Int32) : Bool := if s = 60 then decide (v < u) else if s = 62 then decide (u < v) else decide (v = u)
def fn_fr (P : Nat → Bool) : Nat → Nat → Bool
  | _, 0 => true
  | k, m + 1 => P k && fn_fr P (k + 1) m
def fn_sm (T : Nat → Int32) : Int32 → Nat → Nat → Int32
  | a, _, 0 => a
  | a, k, m + 1 => fn_sm T (a + T k) (k + 1) m
def fn_fs (ok : Nat → Bool) (su : Nat → Int32) : Nat → Nat → Int32
  | _, 0 => 0
  | r, m + 1 => bif ok r then su r else fn_fs ok su (r + 1) m
def fn_P (MM : Nat → Nat → Int32) (V : Nat → Int32) (p k : Nat) : Bool := fn_tst (V (MM 29 (4 * p + k)).toNatClampNeg) (MM 30 (4 * p + k)) (MM 31 (4 * p + k))
def fn_T (MM : Nat → Nat → Int32) (V : Nat → Int32) (p k : Nat) : Int32 := MM 33 (4 * p + k) * (if MM 32 (4 * p + k) = -1 then 1 else V (MM 32 (4 * p + k)).toNatClampNeg)
def fn_ok (MM : Nat → Nat → Int32) (V : Nat → Int32) (kd : Int32) (p : Nat) : Bool := decide (MM 28 p = kd) && fn_fr (fn_P MM V p) 0 (MM 26 p).toNatClampNeg
def fn_su (MM : Nat → Nat → Int32) (V : Nat → Int32) (p : Nat) : Int32 := fn_sm (fn_T MM V p) 0 0 (MM 27 p).toNatClampNeg
def fn_ea (MM : Nat → Nat → Int32) (V : Nat → Int32) (kd : Int32) (o : Nat) : Int32 := fn_fs (fun r => fn_ok MM V kd (12 * o + r)) (fun r => fn_su MM V (12 * o + r)) 0 (MM 25 o).toNatClampNeg
def fn_fo (s : Nat → Int32) (day : Int32) : Int32 → Nat → Nat → Int32
  | b, _, 0 => b
  | b, o, m + 1 => fn_fo s day (if s o ≤ day ∧ (b = -2 ∨ s b.toNatClampNeg ≤ s o) then nI o else b) (o + 1) m
/-- which is in force -/
def fn_fc (MM : Nat → Nat → Int32) (k day : Nat) : Int32 := fn_fo (MM 24) (nI day) (-2) 0 k
def fn_et (MM : Nat → Nat → Int32) (k h day : Nat) (kd : Int32) : Int32 := if fn_fc MM k day < 0 then 0 else fn_ea MM (fn_V MM h day) kd (fn_fc MM k day).toNatClampNeg
abbrev fn_R (MM : Nat → Nat → Int32) (p : Nat) (r26 : Nat → Int32) : Prop := fn_ru p r26 (MM 26) (MM 27) (MM 28) (MM 29) (MM 30) (MM 31) (MM 32) (MM 33)
theorem fo_in {s : Nat → Int32} {day : Int32} : ∀ (m o : Nat) (b : Int32), (b = -2 ∨ ∃ p, p < o ∧ b = nI p) → (fn_fo s day b o m = -2 ∨ ∃ p, p < o + m ∧ fn_fo s day b o m = nI p)
  | 0, o, b, h => h
  | m + 1, o, b, h => by
    have := fo_in (s := s) (day := day) m (o + 1) (if s o ≤ day ∧ (b = -2 ∨ s b.toNatClampNeg ≤ s o) then nI o else b) (by
      by_cases c : s o ≤ day ∧ (b = -2 ∨ s b.toNatClampNeg ≤ s o)
      · rw [if_pos c]; exact Or.inr ⟨o, by omega, rfl⟩
      · rw [if_neg c]
        rcases h with h | ⟨p, p1, p2⟩
        · exact Or.inl h
        · exact Or.inr ⟨p, by omega, p2⟩)
    rw [show o + (m + 1) = o + 1 + m by omega]
    exact this
theorem fc_in (MM : Nat → Nat → Int32) (k day : Nat) : fn_fc MM k day = -2 ∨ ∃ p, p < k ∧ fn_fc MM k day = nI p := by
  have := fo_in (s := MM 24) (day := nI day) k 0 (-2) (Or.inl rfl)
  rw [Nat.zero_add] at this
  exact this
theorem fl_79 {d : Nat} {al : Nat × Nat} {kl k : Nat} {M : Nat → Nat → Int32} {s : Nat → Int32} {day : Int32} (hk : k ≤ 10) (h2 : M 23 2 = nI k) (hf : ∀ o, o < k → ∃ f, f < 200 ∧ M 24 o = nI f ∧ s o = nI f) : ∀ (m o : Nat) (b : Int32), o + m = k → (b = -2 ∨ ∃ p, p < o ∧ b = nI p) → ai_run d 79 1 [.ref 23, .int day, .int b, .int (if b = -2 then -1 else s b.toNatClampNeg), .int (nI o)] [] (hC al kl M) = some (.inl (some (.int (fn_fo s day b o m))), hC al kl M)
  | 0, o, b, h, hb => by
    have : o = k := by omega
    subst this
    rw [bq_79_1, h2, if_pos Int32.le_rfl, bq_79_3]
    rfl
  | m + 1, o, b, h, hb => by
    obtain ⟨f, f1, f2, f3⟩ := hf o (by omega)
    rw [bq_79_1, h2, if_neg (nI_ge (by omega) (by omega)), fi_in (by omega), decide_eq_true (by omega), cond_true, cond_true, cond_true, nI_clamp (by omega), f2]
    show _ = some (Sum.inl (some (Value.int (fn_fo s day (if s o ≤ day ∧ (b = -2 ∨ s b.toNatClampNeg ≤ s o) then nI o else b) (o + 1) m))), hC al kl M)
    by_cases c1 : day < nI f
    · have hc : ¬ (s o ≤ day ∧ (b = -2 ∨ s b.toNatClampNeg ≤ s o)) := fun q => absurd c1 (Int32.not_lt.mpr (f3 ▸ q.1))
      rw [if_pos c1, bq_79_2, nI_1, if_neg hc, fl_79 hk h2 hf m (o + 1) b (by omega) (hb.imp id (fun ⟨p, p1, p2⟩ => ⟨p, by omega, p2⟩))]
    · rw [if_neg c1]
      by_cases c2 : nI f < (if b = -2 then -1 else s b.toNatClampNeg)
      · have hc : ¬ (s o ≤ day ∧ (b = -2 ∨ s b.toNatClampNeg ≤ s o)) := by
          rintro ⟨-, q⟩
          by_cases hb2 : b = -2
          · rw [if_pos hb2] at c2
            exact absurd (Int32.lt_trans c2 (by decide : (-1 : Int32) < 0)) (nI_pos (by omega))
          · rw [if_neg hb2] at c2
            rcases q with q | q
            · exact hb2 q
            · rw [f3] at q; exact absurd c2 (Int32.not_lt.mpr q)
        rw [if_pos c2, bq_79_2, nI_1, if_neg hc, fl_79 hk h2 hf m (o + 1) b (by omega) (hb.imp id (fun ⟨p, p1, p2⟩ => ⟨p, by omega, p2⟩))]
      · have hc : s o ≤ day ∧ (b = -2 ∨ s b.toNatClampNeg ≤ s o) := by
          refine ⟨f3 ▸ Int32.not_lt.mp c1, ?_⟩
          by_cases hb2 : b = -2
          · exact Or.inl hb2
          · rw [if_neg hb2] at c2
            exact Or.inr (f3 ▸ Int32.not_lt.mp c2)
        have hn2 : ¬ nI o = -2 := fun q => by
          have := nI_pos' (n := o) (by omega)
          rw [q] at this
          exact absurd this (by decide)
        have l := fl_79 (d := d) (al := al) (kl := kl) (day := day) hk h2 hf m (o + 1) (nI o) (by omega) (Or.inr ⟨o, by omega, rfl⟩)
        rw [if_neg hn2, nI_clamp (by omega), f3] at l
        rw [if_neg c2, bq_79_2, nI_1, if_pos hc, l]
theorem fw_79 {d : Nat} {al : Nat × Nat} {kl k day : Nat} {M MM : Nat → Nat → Int32} (hk : k ≤ 10) (h2 : M 23 2 = nI k) (hf : ∀ o, o < k → ∃ f, f < 200 ∧ M 24 o = nI f ∧ MM 24 o = nI f) {v2 v3 v4 : Value} : ai_run d 79 0 [.ref 23, .int (nI day), v2, v3, v4] [] (hC al kl M) = some (.inl (some (.int (fn_fc MM k day))), hC al kl M) := by
  rw [bq_79_0]
  have := fl_79 (d := d) (al := al) (kl := kl) (day := nI day) hk h2 hf k 0 (-2) (by omega) (Or.inl rfl)
  rw [if_pos rfl] at this
  exact this
theorem fl_177 {d : Nat} {al : Nat × Nat} {N : Nat → Nat → Int64} {k : Nat} {M : Nat → Nat → Int32} {day : Int32} (hk : k ≤ 10) (h2 : M 0 41 = nI k) : ∀ (m o : Nat) (b : Int32), o + m = k → (b = -2 ∨ ∃ p, p < o ∧ b = nI p) → ai_run d 177 1 [.ref 0, .int day, .int b, .int (nI o)] [] (hM al M N) = some (.inl (some (.int (fn_fo (M 24) day b o m))), hM al M N)
  | 0, o, b, h, hb => by
    have : o = k := by omega
    subst this
    rw [bq_177_1, h2, if_pos Int32.le_rfl, bq_177_4]
    rfl
  | m + 1, o, b, h, hb => by
    have hn2 : ¬ nI o = -2 := fun q => by
      have := nI_pos' (n := o) (by omega)
      rw [q] at this
      exact absurd this (by decide)
    rw [bq_177_1, h2, if_neg (nI_ge (by omega) (by omega)), fi_in (by omega), decide_eq_true (by omega), cond_true, cond_true, nI_clamp (by omega)]
    show _ = some (Sum.inl (some (Value.int (fn_fo (M 24) day (if M 24 o ≤ day ∧ (b = -2 ∨ M 24 b.toNatClampNeg ≤ M 24 o) then nI o else b) (o + 1) m))), hM al M N)
    by_cases c1 : day < M 24 o
    · rw [if_pos c1, bq_177_3, nI_1, if_neg (fun q => absurd c1 (Int32.not_lt.mpr q.1)), fl_177 hk h2 m (o + 1) b (by omega) (hb.imp id (fun ⟨p, p1, p2⟩ => ⟨p, by omega, p2⟩))]
    · rw [if_neg c1]
      by_cases hb2 : b = -2
      · rw [if_pos hb2, bq_177_2, bq_177_3, nI_1, if_pos ⟨Int32.not_lt.mp c1, Or.inl hb2⟩, fl_177 hk h2 m (o + 1) (nI o) (by omega) (Or.inr ⟨o, by omega, rfl⟩)]
      · obtain ⟨p, p1, p2⟩ := hb.resolve_left hb2
        rw [if_neg hb2, show ai_in b 10 = true by rw [p2, fi_in (by omega)]; exact decide_eq_true (by omega), cond_true]
        by_cases c2 : M 24 o < M 24 b.toNatClampNeg
        · rw [if_pos c2, bq_177_3, nI_1, if_neg (fun q => q.2.elim hb2 (fun g => absurd c2 (Int32.not_lt.mpr g))), fl_177 hk h2 m (o + 1) b (by omega) (Or.inr ⟨p, by omega, p2⟩)]
        · rw [if_neg c2, bq_177_2, bq_177_3, nI_1, if_pos ⟨Int32.not_lt.mp c1, Or.inr (Int32.not_lt.mp c2)⟩, fl_177 hk h2 m (o + 1) (nI o) (by omega) (Or.inr ⟨o, by omega, rfl⟩)]
theorem fw_177 {d : Nat} {al : Nat × Nat} {N : Nat → Nat → Int64} {k day : Nat} {M : Nat → Nat → Int32} (hk : k ≤ 10) (h2 : M 0 41 = nI k) {v2 v3 : Value} : ai_run d 177 0 [.ref 0, .int (nI day), v2, v3] [] (hM al M N) = some (.inl (some (.int (fn_fc M k day))), hM al M N) := by
  rw [bq_177_0]
  exact fl_177 (d := d) (al := al) (N := N) (day := nI day) hk h2 k 0 (-2) (by omega) (Or.inl rfl)
theorem ft_117 {n np t : Nat} {M MM : Nat → Nat → Int32} (h : fn_I n np t M MM) (x : Int32) : fn_S 117 178 [.int x] M MM := by
  intro al am kl N
  obtain ⟨-, k, k1, k2, k3, k4⟩ := h.rul
  rw [show ai_ent (ai_mx 117) [.ref 0, .int x] = [.ref 0, .int x] from rfl, show ai_ent (ai_mx 178) [.ref 0, .int x] = [.ref 0, .int x] from rfl]
  rw [bq_117_0, fw_141, fb_s, bq_117_1, bq_178_0, fw_152, fb_s, bq_178_1]
  by_cases hx : 0 ≤ x ∧ x < 200
  · obtain ⟨p, p1, p2⟩ := fi_of (n := 200) (by omega) hx
    rw [if_neg (fun q => fn_b0.mp q hx), if_neg (fun q => fn_b0.mp q hx), p2, fw_79 (MM := MM) k1 k2 (fun o ho => (k4 o ho).1), fw_177 k1 (show (ai_up MM 0 0 0) 0 41 = nI k from k3), fb_s, fb_s, bq_117_2, bq_117_4, bq_178_2, bq_178_4]
    exact ⟨fn_fc MM k p, n, np, t, _, _, rfl, rfl, ⟨rfl, rfl⟩, h.z⟩
  · rw [if_pos (fn_b0.mpr hx), if_pos (fn_b0.mpr hx), bq_117_3, bq_117_4, bq_178_3, bq_178_4]
    exact ⟨_, n, np, t, _, _, rfl, rfl, ⟨rfl, rfl⟩, h.z⟩
/-! a rule in the class -/
theorem fw_87 {d : Nat} {al : Nat × Nat} {kl x : Nat} {M : Nat → Nat → Int32} (hx : x ≤ 6) : ai_run d 87 0 [.ref 23, .int (nI x)] [] (hC al kl M) = some (.inl (some (.int (M 27 x))), hC al kl M) := by
  rw [bq_87_0, if_neg (nI_pos (by omega)), if_neg (fj_nlt (c := 6) (n := 6) rfl hx (by omega)), fi_in (by omega), decide_eq_true (by omega), cond_true, nI_clamp (by omega), bq_87_2]
theorem fi_lk (x : Int32) : ai_look x.toInt [(60, 26), (62, 43)] [3, 6] 9 = if x = 60 then 3 else if x = 62 then 6 else 9 := by
  have h1 : x.toInt = 60 ↔ x = 60 := ⟨fun h => Int32.toInt_inj.mp (h.trans (by decide)), fun h => by rw [h]; decide⟩
  have h2 : x.toInt = 62 ↔ x = 62 := ⟨fun h => Int32.toInt_inj.mp (h.trans (by decide)), fun h => by rw [h]; decide⟩
  show (if x.toInt = 60 then 3 else if x.toInt = 62 then 6 else 9) = _
  simp only [h1, h2]
def fn_bi (b : Bool) : Int32 := bif b then 1 else 0
theorem fl_85 {d : Nat} {al : Nat × Nat} {kl p q : Nat} {M MM : Nat → Nat → Int32} {V : Nat → Int32} (hp : p < 132) (hq : q ≤ 4) (hV : ∀ x, x ≤ 5 → M 27 x = V x) (hr : ∀ k : Nat, k < q → (M 26 (23 * p + 3 + 3 * k) = MM 29 (4 * p + k) ∧ ∃ x : Nat, x ≤ 5 ∧ MM 29 (4 * p + k) = nI x) ∧ M 26 (23 * p + 3 + 3 * k + 1) = MM 30 (4 * p + k) ∧ M 26 (23 * p + 3 + 3 * k + 2) = MM 31 (4 * p + k)) : ∀ (m k : Nat) (v1 v4 v5 v6 : Value), k + m = q → ai_run (d + 1) 85 1 [.ref 23, v1, .int (nI (23 * p + 3 + 3 * q)), .int (nI (23 * p + 3 + 3 * k)), v4, v5, v6] [] (hC al kl M) = some (.inl (some (.int (fn_bi (fn_fr (fn_P MM V p) k m)))), hC al kl M)
  | 0, k, v1, v4, v5, v6, h => by
    have : k = q := by omega
    subst this
    rw [bq_85_1, if_pos Int32.le_rfl, bq_85_14]
    rfl
  | m + 1, k, v1, v4, v5, v6, h => by
    obtain ⟨⟨a1, x, a2, a3⟩, a4, a5⟩ := hr k (by omega)
    have e3 : nI (23 * p + 3 + 3 * k) + 3 = nI (23 * p + 3 + 3 * (k + 1)) := nI_add _ 3
    have eP : fn_P MM V p k = fn_tst (V x) (MM 30 (4 * p + k)) (MM 31 (4 * p + k)) := by
      unfold fn_P
      rw [a3, nI_clamp (by omega)]
    have go : ∀ b : Bool, fn_P MM V p k = b → ai_run (d + 1) 85 12 [.ref 23, ai_un, .int (nI (23 * p + 3 + 3 * q)), .int (nI (23 * p + 3 + 3 * k)), ai_un, ai_un, .int (fn_bi b)] [] (hC al kl M) = some (.inl (some (.int (fn_bi (fn_fr (fn_P MM V p) k (m + 1))))), hC al kl M) := by
      intro b hb
      show _ = some (Sum.inl (some (Value.int (fn_bi (fn_P MM V p k && fn_fr (fn_P MM V p) (k + 1) m)))), hC al kl M)
      rw [hb]
      cases b
      · rw [bq_85_12, if_pos (show fn_bi false = 0 from rfl)]
        rfl
      · rw [bq_85_12, if_neg (by decide), bq_85_13, e3, fl_85 hp hq hV hr m (k + 1) _ _ _ _ (by omega)]
        rfl
    rw [bq_85_1, if_neg (nI_ge (by omega) (by omega)), fi_in (by omega), decide_eq_true (by omega), cond_true, nI_clamp (by omega), a1, a3, fw_87 (by omega), fb_s, bq_85_2, show nI (23 * p + 3 + 3 * k) + 2 = nI (23 * p + 3 + 3 * k + 2) from nI_add _ 2, nI_1, fi_in (by omega), decide_eq_true (by omega), cond_true, fi_in (by omega), decide_eq_true (by omega), cond_true, nI_clamp (by omega), nI_clamp (by omega), a4, a5, fi_lk, hV x a2]
    by_cases c1 : MM 30 (4 * p + k) = 60
    · rw [if_pos c1, bq_85_3]
      by_cases c2 : V x < MM 31 (4 * p + k)
      · rw [if_neg (Int32.not_le.mpr c2), bq_85_5]
        exact go true (by rw [eP]; unfold fn_tst; rw [if_pos c1, decide_eq_true c2])
      · rw [if_pos (Int32.not_lt.mp c2), bq_85_4, bq_85_5]
        exact go false (by rw [eP]; unfold fn_tst; rw [if_pos c1, decide_eq_false c2])
    · rw [if_neg c1]
      by_cases c3 : MM 30 (4 * p + k) = 62
      · rw [if_pos c3, bq_85_6]
        by_cases c2 : MM 31 (4 * p + k) < V x
        · rw [if_neg (Int32.not_le.mpr c2), bq_85_8]
          exact go true (by rw [eP]; unfold fn_tst; rw [if_neg c1, if_pos c3, decide_eq_true c2])
        · rw [if_pos (Int32.not_lt.mp c2), bq_85_7, bq_85_8]
          exact go false (by rw [eP]; unfold fn_tst; rw [if_neg c1, if_pos c3, decide_eq_false c2])
      · rw [if_neg c3, bq_85_9]
        by_cases c2 : V x = MM 31 (4 * p + k)
        · rw [if_pos c2, bq_85_11]
          exact go true (by rw [eP]; unfold fn_tst; rw [if_neg c1, if_neg c3, decide_eq_true c2])
        · rw [if_neg c2, bq_85_10, bq_85_11]
          exact go false (by rw [eP]; unfold fn_tst; rw [if_neg c1, if_neg c3, decide_eq_false c2])
theorem fl_86 {d : Nat} {al : Nat × Nat} {kl p q : Nat} {M MM : Nat → Nat → Int32} {V : Nat → Int32} (hp : p < 132) (hq : q ≤ 4) (hV : ∀ x, x ≤ 5 → M 27 x = V x) (hV6 : M 27 6 = 1) (hr : ∀ k : Nat, k < q → (M 26 (23 * p + 15 + 2 * k) = MM 33 (4 * p + k) ∧ 0 ≤ MM 33 (4 * p + k) ∧ MM 33 (4 * p + k) ≤ 999) ∧ ((MM 32 (4 * p + k) = -1 ∧ M 26 (23 * p + 15 + 2 * k + 1) = 6) ∨ ∃ x : Nat, x ≤ 5 ∧ MM 32 (4 * p + k) = nI x ∧ M 26 (23 * p + 15 + 2 * k + 1) = nI x)) : ∀ (m k : Nat) (a : Int32) (v1 : Value), k + m = q → ai_run (d + 1) 86 1 [.ref 23, v1, .int a, .int (nI (23 * p + 15 + 2 * q)), .int (nI (23 * p + 15 + 2 * k))] [] (hC al kl M) = some (.inl (some (.int (fn_sm (fn_T MM V p) a k m))), hC al kl M)
  | 0, k, a, v1, h => by
    have : k = q := by omega
    subst this
    rw [bq_86_1, if_pos Int32.le_rfl, bq_86_3]
    rfl
  | m + 1, k, a, v1, h => by
    obtain ⟨⟨a1, -, -⟩, a2⟩ := hr k (by omega)
    have e2 : nI (23 * p + 15 + 2 * k) + 2 = nI (23 * p + 15 + 2 * (k + 1)) := nI_add _ 2
    have eT : ∃ x : Nat, x ≤ 6 ∧ M 26 (23 * p + 15 + 2 * k + 1) = nI x ∧ MM 33 (4 * p + k) * M 27 x = fn_T MM V p k := by
      rcases a2 with ⟨b1, b2⟩ | ⟨x, b1, b2, b3⟩
      · exact ⟨6, by omega, b2, by unfold fn_T; rw [if_pos b1, hV6]⟩
      · refine ⟨x, by omega, b3, ?_⟩
        unfold fn_T
        rw [b2, if_neg (fi_m1 (by omega)), nI_clamp (by omega), hV x b1]
    obtain ⟨x, x1, x2, x3⟩ := eT
    rw [bq_86_1, if_neg (nI_ge (by omega) (by omega)), fi_in (by omega), decide_eq_true (by omega), cond_true, nI_1, fi_in (by omega), decide_eq_true (by omega), cond_true, nI_clamp (by omega), nI_clamp (by omega), a1, x2, fw_87 x1, fb_s, bq_86_2, e2, x3, fl_86 hp hq hV hV6 hr m (k + 1) _ _ (by omega)]
    rfl
theorem fi_row (o r : Nat) : (nI o * 12 + nI r) * 23 = nI (23 * (12 * o + r)) := by
  rw [show (12 : Int32) = nI 12 from rfl, show (23 : Int32) = nI 23 from rfl, pk_mul, nI_add, pk_mul]
  congr 1
  omega
theorem fl_84 {d : Nat} {al : Nat × Nat} {kl o mm : Nat} {kd : Int32} {M MM : Nat → Nat → Int32} {V : Nat → Int32} (ho : o < 10) (hm : mm ≤ 12) (h25 : M 25 o = nI mm) (hV : ∀ x, x ≤ 5 → M 27 x = V x) (hV6 : M 27 6 = 1) (hr : ∀ r, r < mm → fn_R MM (12 * o + r) (M 26)) : ∀ (m r : Nat) (v4 : Value), r + m = mm → ai_run (d + 2) 84 3 [.ref 23, .int (nI o), .int kd, .int (nI r), v4] [] (hC al kl M) = some (.inl (some (.int (fn_fs (fun r => fn_ok MM V kd (12 * o + r)) (fun r => fn_su MM V (12 * o + r)) r m))), hC al kl M)
  | 0, r, v4, h => by
    have : r = mm := by omega
    subst this
    rw [bq_84_3, fi_in (by omega), decide_eq_true (by omega), cond_true, nI_clamp (by omega), h25, if_pos Int32.le_rfl, bq_84_8]
    rfl
  | m + 1, r, v4, h => by
    obtain ⟨⟨a1, a1'⟩, ⟨q, q1, q2, q3, q4⟩, u, u1, u2, u3, u4⟩ := hr r (by omega)
    show _ = some (Sum.inl (some (Value.int (bif fn_ok MM V kd (12 * o + r) then fn_su MM V (12 * o + r) else fn_fs (fun r => fn_ok MM V kd (12 * o + r)) (fun r => fn_su MM V (12 * o + r)) (r + 1) m))), hC al kl M)
    have next : fn_ok MM V kd (12 * o + r) = false → ai_run (d + 2) 84 7 [.ref 23, .int (nI o), .int kd, .int (nI r), .int (nI (23 * (12 * o + r)))] [] (hC al kl M) = some (.inl (some (.int (bif fn_ok MM V kd (12 * o + r) then fn_su MM V (12 * o + r) else fn_fs (fun r => fn_ok MM V kd (12 * o + r)) (fun r => fn_su MM V (12 * o + r)) (r + 1) m))), hC al kl M) := by
      intro hf
      rw [hf, cond_false, bq_84_7, nI_1, fl_84 ho hm h25 hV hV6 hr m (r + 1) _ (by omega)]
    rw [bq_84_3, fi_in (by omega), decide_eq_true (by omega), cond_true, nI_clamp (by omega), h25, if_neg (nI_ge (by omega) (by omega)), bq_88_0, fb_s, bq_84_4, fi_row, fi_in (by omega), decide_eq_true (by omega), cond_true, nI_clamp (by omega), a1]
    by_cases c1 : MM 28 (12 * o + r) = kd
    · rw [if_pos c1, bq_85_0, nI_1, fi_in (by omega), decide_eq_true (by omega), cond_true, nI_clamp (by omega), q2, show (3 : Int32) = nI 3 from rfl, nI_add, pk_mul, nI_add]
      have l := fl_85 (d := d) (al := al) (kl := kl) (M := M) (MM := MM) (V := V) (p := 12 * o + r) (q := q) (by omega) q1 hV q4 q 0 (.int (nI (23 * (12 * o + r)))) ai_un ai_un ai_un (by omega)
      rw [show 23 * (12 * o + r) + 3 + 3 * 0 = 23 * (12 * o + r) + 3 by omega] at l
      rw [l, fb_s, bq_84_5]
      have eo : fn_ok MM V kd (12 * o + r) = fn_fr (fn_P MM V (12 * o + r)) 0 q := by
        unfold fn_ok
        rw [decide_eq_true c1, q3, nI_clamp (by omega), Bool.true_and]
      cases hb : fn_fr (fn_P MM V (12 * o + r)) 0 q with
      | false => rw [if_pos (show fn_bi false = 0 from rfl)]; exact next (eo.trans hb)
      | true =>
        have l2 := fl_86 (d := d) (al := al) (kl := kl) (M := M) (MM := MM) (V := V) (p := 12 * o + r) (q := u) (by omega) u1 hV hV6 u4 u 0 0 (.int (nI (23 * (12 * o + r)))) (by omega)
        rw [show 23 * (12 * o + r) + 15 + 2 * 0 = 23 * (12 * o + r) + 15 by omega] at l2
        rw [if_neg (by decide), bq_86_0, show nI (23 * (12 * o + r)) + 2 = nI (23 * (12 * o + r) + 2) from nI_add _ 2, fi_in (by omega), decide_eq_true (by omega), cond_true, nI_clamp (by omega), u2, show (15 : Int32) = nI 15 from rfl, show (2 : Int32) = nI 2 from rfl, nI_add, pk_mul, nI_add, l2, fb_s, bq_84_6, eo.trans hb, cond_true]
        unfold fn_su
        rw [u3, nI_clamp (by omega)]
    · rw [if_neg c1]
      exact next (by unfold fn_ok; rw [decide_eq_false c1, Bool.false_and])
theorem fw_84 {d : Nat} {al : Nat × Nat} {kl o mm k : Nat} {kd : Int32} {M MM : Nat → Nat → Int32} {V : Nat → Int32} (hs : M 23 2 = nI k) (hk : k ≤ 10) (hok : o < k) (hm : mm ≤ 12) (h25 : M 25 o = nI mm) (g25 : MM 25 o = nI mm) (hV : ∀ x, x ≤ 5 → M 27 x = V x) (hV6 : M 27 6 = 1) (hr : ∀ r, r < mm → fn_R MM (12 * o + r) (M 26)) {v3 v4 : Value} : ai_run (d + 2) 84 0 [.ref 23, .int (nI o), .int kd, v3, v4] [] (hC al kl M) = some (.inl (some (.int (fn_ea MM V kd o))), hC al kl M) := by
  have l := fl_84 (d := d) (al := al) (kl := kl) (kd := kd) (show o < 10 by omega) hm h25 hV hV6 hr mm 0 ai_un (by omega)
  rw [bq_84_0, if_neg (nI_pos (by omega)), if_pos (show nI o < M 23 2 from fj_gt hs hok (by omega)), bq_84_2]
  unfold fn_ea
  rw [g25, nI_clamp (by omega)]
  exact l
