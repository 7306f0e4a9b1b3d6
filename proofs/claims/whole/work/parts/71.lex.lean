/-! ordinances: the tokens of a text -/
def fp_run (P : Nat → Bool) (b : Nat → Nat) : Nat → Nat → Nat
  | p, 0 => p
  | p, m + 1 => if P (b p) = true then fp_run P b (p + 1) m else p
def fp_bl (c : Nat) : Bool := decide (c = 32)
def fp_le (c : Nat) : Bool := decide (97 ≤ c ∧ c ≤ 122)
def fp_di (c : Nat) : Bool := decide (48 ≤ c ∧ c ≤ 57)
def fp_sg (c : Nat) : Bool := decide (c = 60 ∨ c = 62 ∨ c = 61 ∨ c = 43 ∨ c = 42 ∨ c = 59)
/-- a word's number -/
def fp_e (f : Nat → Nat) : Nat → Nat
  | 0 => 0
  | m + 1 => 32 * fp_e f m + f m
def fp_en (b : Nat → Nat) (p m : Nat) : Nat := fp_e (fun i => b (p + i) - 96) m
/-- a number -/
def fp_nu (b : Nat → Nat) (p : Nat) : Nat → Nat
  | 0 => 0
  | m + 1 => 10 * fp_nu b p m + (b (p + m) - 48)
def fp_ws : List (List Nat) := [[114, 97, 110, 107], [109, 111, 117, 116, 104, 115], [104, 111, 114, 115, 101, 115], [100, 97, 121], [109, 117, 100], [102, 101, 97, 115, 116], [119, 104, 101, 110], [97, 110, 100], [101, 97, 116, 115], [102, 101, 101, 100, 115]]
def fp_w (j : Nat) : List Nat := fp_ws.getD j []
def fp_h (j : Nat) : Nat := fp_e (fun i => (fp_w j).getD i 0 - 96) (fp_w j).length
def fp_cd (j : Nat) : Int32 := ([0, 1, 2, 3, 4, 5, 257, 258, 259, 260] : List Int32).getD j 256
def fp_wt (w : Nat) : Int32 := if w = fp_h 0 then 0 else if w = fp_h 1 then 1 else if w = fp_h 2 then 2 else if w = fp_h 3 then 3 else if w = fp_h 4 then 4 else if w = fp_h 5 then 5 else if w = fp_h 6 then 257 else if w = fp_h 7 then 258 else if w = fp_h 8 then 259 else if w = fp_h 9 then 260 else 256
def fp_en1 (P : Nat → Bool) (b : Nat → Nat) (n p : Nat) : Nat := fp_run P b p (n - p)
def fp_tok (b : Nat → Nat) (n p : Nat) : Int32 := if n ≤ p then -1 else if fp_le (b p) = true then (if 8 < fp_en1 fp_le b n p - p then -2 else fp_wt (fp_en b p (fp_en1 fp_le b n p - p))) else if fp_di (b p) = true then (if 3 < fp_en1 fp_di b n p - p then -2 else nI (1000 + fp_nu b p (fp_en1 fp_di b n p - p))) else if fp_sg (b p) = true then nI (b p) else -2
def fp_nx (b : Nat → Nat) (n p : Nat) : Nat := if n ≤ p then p else if fp_le (b p) = true then fp_en1 fp_le b n p else if fp_di (b p) = true then fp_en1 fp_di b n p else p + 1
/-- where the i-th token is looked for; where it stands; what it is -/
def fp_ps (b : Nat → Nat) (n : Nat) : Nat → Nat
  | 0 => 0
  | i + 1 => fp_nx b n (fp_en1 fp_bl b n (fp_ps b n i))
def fp_pl (b : Nat → Nat) (n i : Nat) : Nat := fp_en1 fp_bl b n (fp_ps b n i)
def fp_tk (b : Nat → Nat) (n i : Nat) : Int32 := fp_tok b n (fp_pl b n i)
theorem fp_run_ge {P : Nat → Bool} {b : Nat → Nat} : ∀ (m p : Nat), p ≤ fp_run P b p m ∧ fp_run P b p m ≤ p + m
  | 0, p => ⟨Nat.le_refl _, Nat.le_refl _⟩
  | m + 1, p => by
    unfold fp_run
    by_cases c : P (b p) = true
    · rw [if_pos c]; have := fp_run_ge (P := P) (b := b) m (p + 1); omega
    · rw [if_neg c]; omega
theorem fp_run_all {P : Nat → Bool} {b : Nat → Nat} : ∀ (m p i : Nat), p ≤ i → i < fp_run P b p m → P (b i) = true
  | 0, p, i, h1, h2 => by have : i < p := h2; omega
  | m + 1, p, i, h1, h2 => by
    unfold fp_run at h2
    by_cases c : P (b p) = true
    · rw [if_pos c] at h2
      by_cases e : i = p
      · rw [e]; exact c
      · exact fp_run_all m (p + 1) i (by omega) h2
    · rw [if_neg c] at h2; omega
theorem fp_en1_ge {P : Nat → Bool} {b : Nat → Nat} {n p : Nat} (hp : p ≤ n) : p ≤ fp_en1 P b n p ∧ fp_en1 P b n p ≤ n := by
  have := fp_run_ge (P := P) (b := b) (n - p) p
  unfold fp_en1
  omega
theorem fp_en1_gt {P : Nat → Bool} {b : Nat → Nat} {n p : Nat} (hp : p < n) (h : P (b p) = true) : p < fp_en1 P b n p := by
  unfold fp_en1
  rw [show n - p = (n - p - 1) + 1 by omega]
  unfold fp_run
  rw [if_pos h]
  have := fp_run_ge (P := P) (b := b) (n - p - 1) (p + 1)
  omega
theorem fp_e_inj {f g : Nat → Nat} : ∀ (m k : Nat), (∀ i, i < m → 1 ≤ f i ∧ f i ≤ 31) → (∀ i, i < k → 1 ≤ g i ∧ g i ≤ 31) → fp_e f m = fp_e g k → m = k ∧ ∀ i, i < m → f i = g i
  | 0, 0, _, _, _ => ⟨rfl, fun i h => absurd h (Nat.not_lt_zero _)⟩
  | 0, k + 1, _, hg, h => by
    have := hg k (by omega)
    have h' : 0 = 32 * fp_e g k + g k := h
    omega
  | m + 1, 0, hf, _, h => by
    have := hf m (by omega)
    have h' : 32 * fp_e f m + f m = 0 := h
    omega
  | m + 1, k + 1, hf, hg, h => by
    have h1 := hf m (by omega)
    have h2 := hg k (by omega)
    have h' : 32 * fp_e f m + f m = 32 * fp_e g k + g k := h
    obtain ⟨e1, e2⟩ := fp_e_inj (f := f) (g := g) m k (fun i hi => hf i (by omega)) (fun i hi => hg i (by omega)) (by omega)
    subst e1
    refine ⟨rfl, fun i hi => ?_⟩
    by_cases e : i = m
    · subst e; omega
    · exact e2 i (by omega)
theorem fp_w_ok : ∀ j, j < 10 → (fp_w j).length ≤ 6 ∧ ∀ i, i < (fp_w j).length → 97 ≤ (fp_w j).getD i 0 ∧ (fp_w j).getD i 0 ≤ 122 := by decide
theorem fp_h_iff {b : Nat → Nat} {p m j : Nat} (hj : j < 10) (hb : ∀ i, i < m → fp_le (b (p + i)) = true) : fp_en b p m = fp_h j ↔ m = (fp_w j).length ∧ ∀ i, i < m → b (p + i) = (fp_w j).getD i 0 := by
  have hw := fp_w_ok j hj
  have hb' : ∀ i, i < m → 97 ≤ b (p + i) ∧ b (p + i) ≤ 122 := fun i hi => of_decide_eq_true (hb i hi)
  constructor
  · intro h
    obtain ⟨e1, e2⟩ := fp_e_inj m (fp_w j).length (fun i hi => by have := hb' i hi; omega) (fun i hi => by have := hw.2 i hi; omega) h
    refine ⟨e1, fun i hi => ?_⟩
    have h1 := e2 i hi
    have h2 := hb' i hi
    have h3 := hw.2 i (by omega)
    omega
  · rintro ⟨e1, e2⟩
    unfold fp_en fp_h
    rw [← e1]
    have : ∀ k, k ≤ m → fp_e (fun i => b (p + i) - 96) k = fp_e (fun i => (fp_w j).getD i 0 - 96) k := by
      intro k
      induction k with
      | zero => intro _; rfl
      | succ k ih =>
        intro hk
        show 32 * fp_e (fun i => b (p + i) - 96) k + (b (p + k) - 96) = 32 * fp_e (fun i => (fp_w j).getD i 0 - 96) k + ((fp_w j).getD k 0 - 96)
        rw [ih (by omega), e2 k (by omega)]
    exact this m (Nat.le_refl _)
theorem fp_wt_h : ∀ i, i < 10 → ∀ j, j < 10 → (fp_wt (fp_h i) = fp_cd j ↔ fp_h i = fp_h j) := by decide
theorem fp_wt_iff {w j : Nat} (hj : j < 10) : fp_wt w = fp_cd j ↔ w = fp_h j := by
  by_cases h : ∃ i, i < 10 ∧ w = fp_h i
  · obtain ⟨i, i1, i2⟩ := h
    rw [i2]
    exact fp_wt_h i i1 j hj
  · have hn : ∀ i, i < 10 → ¬ w = fp_h i := fun i hi e => h ⟨i, hi, e⟩
    have e : fp_wt w = 256 := by
      unfold fp_wt
      rw [if_neg (hn 0 (by omega)), if_neg (hn 1 (by omega)), if_neg (hn 2 (by omega)), if_neg (hn 3 (by omega)), if_neg (hn 4 (by omega)), if_neg (hn 5 (by omega)), if_neg (hn 6 (by omega)), if_neg (hn 7 (by omega)), if_neg (hn 8 (by omega)), if_neg (hn 9 (by omega))]
    rw [e]
    have hc : ∀ j, j < 10 → ¬ (256 : Int32) = fp_cd j := by decide
    exact ⟨fun z => absurd z (hc j hj), fun z => absurd z (hn j hj)⟩
theorem fp_wt_in (w : Nat) : fp_wt w = 256 ∨ ∃ j, j < 10 ∧ fp_wt w = fp_cd j := by
  by_cases h : ∃ i, i < 10 ∧ w = fp_h i
  · obtain ⟨i, i1, i2⟩ := h
    exact Or.inr ⟨i, i1, (fp_wt_iff i1).mpr i2⟩
  · have hn : ∀ i, i < 10 → ¬ w = fp_h i := fun i hi e => h ⟨i, hi, e⟩
    left
    unfold fp_wt
    rw [if_neg (hn 0 (by omega)), if_neg (hn 1 (by omega)), if_neg (hn 2 (by omega)), if_neg (hn 3 (by omega)), if_neg (hn 4 (by omega)), if_neg (hn 5 (by omega)), if_neg (hn 6 (by omega)), if_neg (hn 7 (by omega)), if_neg (hn 8 (by omega)), if_neg (hn 9 (by omega))]
/-! the class scans -/
/-- the class's tape: n bytes are read -/
def fp_B (b : Nat → Nat) (n : Nat) (c2 : Int32) (r29 : Nat → Int32) : Prop := n ≤ 400 ∧ c2 = nI n ∧ ∀ j, j < n → r29 j = nI (b j) ∧ b j ≤ 255
abbrev fp_Bc (b : Nat → Nat) (n : Nat) (M : Nat → Nat → Int32) : Prop := fp_B b n (M 28 2) (M 29)
theorem fw_215 {d : Nat} {al : Nat × Nat} {kl n i : Nat} {b : Nat → Nat} {M : Nat → Nat → Int32} (hB : fp_Bc b n M) (hi : i < n) : ai_run d 215 0 [.ref 28, .int (nI i)] [] (hC al kl M) = some (.inl (some (.int (nI (b i)))), hC al kl M) := by
  obtain ⟨h1, h2, h3⟩ := hB
  obtain ⟨e1, e2⟩ := h3 i hi
  rw [bq_215_0, h2, if_neg (nI_pos (by omega)), if_neg (nI_ge hi (by omega)), fi_in (by omega), decide_eq_true (by omega), cond_true, nI_clamp (by omega), e1, bq_215_2]
theorem fw_215n {d : Nat} {al : Nat × Nat} {kl n i : Nat} {b : Nat → Nat} {M : Nat → Nat → Int32} (hB : fp_Bc b n M) (hn : n ≤ i) (hi : i < 2 ^ 31) : ai_run d 215 0 [.ref 28, .int (nI i)] [] (hC al kl M) = some (.inl (some (.int (-1))), hC al kl M) := by
  obtain ⟨h1, h2, h3⟩ := hB
  rw [bq_215_0, h2, if_neg (nI_pos hi), if_pos (nI_le hn hi), bq_215_1, bq_215_2]
theorem fw_101 {d : Nat} {al : Nat × Nat} {kl n i : Nat} {b : Nat → Nat} {M : Nat → Nat → Int32} (hB : fp_Bc b n M) (hi : i < 2 ^ 31) : ai_run (d + 1) 101 0 [.ref 28, .int (nI i)] [] (hC al kl M) = some (.inl (some (.int (fn_bi (decide (i < n) && fp_le (b i))))), hC al kl M) := by
  have hn := hB.1
  rw [bq_101_0]
  by_cases c : i < n
  · obtain ⟨e1, e2⟩ := hB.2.2 i c
    rw [fw_215 hB c, fb_s, bq_101_1, decide_eq_true c, Bool.true_and]
    by_cases c1 : b i < 97
    · rw [if_pos (fj_gt (c := 97) (n := 97) rfl c1 (by omega)), bq_101_3, bq_101_4, if_pos (Or.inl rfl), show fp_le (b i) = false from decide_eq_false (by omega)]
      rfl
    · rw [if_neg (fj_ngt (c := 97) (n := 97) rfl (by omega) (by omega)), fw_215 hB c, fb_s, bq_101_2]
      by_cases c2 : 122 < b i
      · rw [if_pos (fj_lt (c := 122) (n := 122) rfl c2 (by omega)), bq_101_3, bq_101_4, if_pos (Or.inl rfl), show fp_le (b i) = false from decide_eq_false (by omega)]
        rfl
      · rw [if_neg (fj_nlt (c := 122) (n := 122) rfl (by omega) (by omega)), bq_101_4, if_pos (Or.inr rfl), show fp_le (b i) = true from decide_eq_true (by omega)]
        rfl
  · rw [fw_215n hB (by omega) hi, fb_s, bq_101_1, if_pos (show (-1 : Int32) < 97 by decide), bq_101_3, bq_101_4, if_pos (Or.inl rfl), decide_eq_false c, Bool.false_and]
    rfl
theorem fw_102 {d : Nat} {al : Nat × Nat} {kl n i : Nat} {b : Nat → Nat} {M : Nat → Nat → Int32} (hB : fp_Bc b n M) (hi : i < 2 ^ 31) : ai_run (d + 1) 102 0 [.ref 28, .int (nI i)] [] (hC al kl M) = some (.inl (some (.int (fn_bi (decide (i < n) && fp_di (b i))))), hC al kl M) := by
  have hn := hB.1
  rw [bq_102_0]
  by_cases c : i < n
  · obtain ⟨e1, e2⟩ := hB.2.2 i c
    rw [fw_215 hB c, fb_s, bq_102_1, decide_eq_true c, Bool.true_and]
    by_cases c1 : b i < 48
    · rw [if_pos (fj_gt (c := 48) (n := 48) rfl c1 (by omega)), bq_102_3, bq_102_4, if_pos (Or.inl rfl), show fp_di (b i) = false from decide_eq_false (by omega)]
      rfl
    · rw [if_neg (fj_ngt (c := 48) (n := 48) rfl (by omega) (by omega)), fw_215 hB c, fb_s, bq_102_2]
      by_cases c2 : 57 < b i
      · rw [if_pos (fj_lt (c := 57) (n := 57) rfl c2 (by omega)), bq_102_3, bq_102_4, if_pos (Or.inl rfl), show fp_di (b i) = false from decide_eq_false (by omega)]
        rfl
      · rw [if_neg (fj_nlt (c := 57) (n := 57) rfl (by omega) (by omega)), bq_102_4, if_pos (Or.inr rfl), show fp_di (b i) = true from decide_eq_true (by omega)]
        rfl
  · rw [fw_215n hB (by omega) hi, fb_s, bq_102_1, if_pos (show (-1 : Int32) < 48 by decide), bq_102_3, bq_102_4, if_pos (Or.inl rfl), decide_eq_false c, Bool.false_and]
    rfl
theorem fl_95 {d : Nat} {al : Nat × Nat} {kl n : Nat} {b : Nat → Nat} {M : Nat → Nat → Int32} (hB : fp_Bc b n M) : ∀ (m p : Nat) (v1 : Value), p + m = n → ai_run (d + 1) 95 1 [.ref 28, v1, .int (nI p)] [] (hC al kl M) = some (.inl (some (.int (nI (fp_run fp_bl b p m)))), hC al kl M)
  | 0, p, v1, h => by
    have : p = n := by omega
    subst this
    rw [bq_95_1, hB.2.1, if_pos Int32.le_rfl, bq_95_3]
    rfl
  | m + 1, p, v1, h => by
    obtain ⟨h1, h2, h3⟩ := id hB
    obtain ⟨e1, e2⟩ := h3 p (by omega)
    rw [bq_95_1, h2, if_neg (nI_ge (by omega) (by omega)), fw_215 hB (show p < n by omega), fb_s, bq_95_2]
    unfold fp_run
    by_cases c : b p = 32
    · rw [c, if_pos (show nI 32 = 32 from rfl), nI_1, fl_95 hB m (p + 1) _ (by omega), if_pos (show fp_bl 32 = true from rfl)]
    · rw [if_neg (fj_ne (c := 32) (n := 32) rfl c (by omega) (by omega)), bq_95_3, if_neg (show ¬ fp_bl (b p) = true from fun z => c (of_decide_eq_true z))]
theorem fw_95 {d : Nat} {al : Nat × Nat} {kl n p : Nat} {b : Nat → Nat} {M : Nat → Nat → Int32} (hB : fp_Bc b n M) (hp : p ≤ n) {v2 : Value} : ai_run (d + 1) 95 0 [.ref 28, .int (nI p), v2] [] (hC al kl M) = some (.inl (some (.int (nI (fp_en1 fp_bl b n p)))), hC al kl M) := by
  rw [bq_95_0]
  exact fl_95 hB (n - p) p _ (by omega)
theorem fl_96a {d : Nat} {al : Nat × Nat} {kl n : Nat} {b : Nat → Nat} {M : Nat → Nat → Int32} (hB : fp_Bc b n M) : ∀ (m p : Nat) (v1 : Value), p + m = n → ai_run (d + 2) 96 2 [.ref 28, v1, .int (nI p)] [] (hC al kl M) = some (.inl (some (.int (nI (fp_run fp_le b p m)))), hC al kl M)
  | 0, p, v1, h => by
    have : p = n := by omega
    subst this
    rw [bq_96_2, hB.2.1, if_pos Int32.le_rfl, bq_96_9]
    rfl
  | m + 1, p, v1, h => by
    have hn := hB.1
    rw [bq_96_2, hB.2.1, if_neg (nI_ge (by omega) (by omega)), fw_101 hB (by omega), fb_s, bq_96_3, decide_eq_true (show p < n by omega), Bool.true_and]
    unfold fp_run
    cases c : fp_le (b p) with
    | true => rw [if_neg (show ¬ fn_bi true = 0 by decide), nI_1, fl_96a hB m (p + 1) _ (by omega), if_pos rfl]
    | false => rw [if_pos (show fn_bi false = 0 from rfl), bq_96_9, if_neg (by decide)]
theorem fl_96b {d : Nat} {al : Nat × Nat} {kl n : Nat} {b : Nat → Nat} {M : Nat → Nat → Int32} (hB : fp_Bc b n M) : ∀ (m p : Nat) (v1 : Value), p + m = n → ai_run (d + 2) 96 6 [.ref 28, v1, .int (nI p)] [] (hC al kl M) = some (.inl (some (.int (nI (fp_run fp_di b p m)))), hC al kl M)
  | 0, p, v1, h => by
    have : p = n := by omega
    subst this
    rw [bq_96_6, hB.2.1, if_pos Int32.le_rfl, bq_96_9]
    rfl
  | m + 1, p, v1, h => by
    have hn := hB.1
    rw [bq_96_6, hB.2.1, if_neg (nI_ge (by omega) (by omega)), fw_102 hB (by omega), fb_s, bq_96_7, decide_eq_true (show p < n by omega), Bool.true_and]
    unfold fp_run
    cases c : fp_di (b p) with
    | true => rw [if_neg (show ¬ fn_bi true = 0 by decide), nI_1, fl_96b hB m (p + 1) _ (by omega), if_pos rfl]
    | false => rw [if_pos (show fn_bi false = 0 from rfl), bq_96_9, if_neg (by decide)]
theorem fp_dl {c : Nat} (h : fp_le c = true) : fp_di c = false := by
  have := of_decide_eq_true h
  exact decide_eq_false (by omega)
/-- where the class's token ends (behind the end: one more) -/
theorem fw_96 {d : Nat} {al : Nat × Nat} {kl n p : Nat} {b : Nat → Nat} {M : Nat → Nat → Int32} (hB : fp_Bc b n M) (hp : p ≤ n) {v2 : Value} : ai_run (d + 2) 96 0 [.ref 28, .int (nI p), v2] [] (hC al kl M) = some (.inl (some (.int (nI (if n ≤ p then p + 1 else fp_nx b n p)))), hC al kl M) := by
  have hn := hB.1
  rw [bq_96_0, fw_101 hB (by omega), fb_s, bq_96_1]
  by_cases hpn : n ≤ p
  · rw [decide_eq_false (by omega), Bool.false_and, if_pos (show fn_bi false = 0 from rfl), bq_96_4, fw_102 hB (by omega), fb_s, bq_96_5, decide_eq_false (by omega), Bool.false_and, if_pos (show fn_bi false = 0 from rfl), bq_96_8, bq_96_9, nI_1, if_pos hpn]
  · rw [decide_eq_true (show p < n by omega), Bool.true_and, if_neg hpn]
    unfold fp_nx
    rw [if_neg hpn]
    cases c : fp_le (b p) with
    | true =>
      rw [if_neg (show ¬ fn_bi true = 0 by decide), fl_96a hB (n - p) p _ (by omega), if_pos rfl]
      rfl
    | false =>
      rw [if_pos (show fn_bi false = 0 from rfl), bq_96_4, fw_102 hB (by omega), fb_s, bq_96_5, decide_eq_true (show p < n by omega), Bool.true_and, if_neg (show ¬ false = true by decide)]
      cases c2 : fp_di (b p) with
      | true =>
        rw [if_neg (show ¬ fn_bi true = 0 by decide), fl_96b hB (n - p) p _ (by omega), if_pos rfl]
        rfl
      | false => rw [if_pos (show fn_bi false = 0 from rfl), bq_96_8, bq_96_9, nI_1, if_neg (show ¬ false = true by decide)]
theorem fl_98 {d : Nat} {al : Nat × Nat} {kl n p0 : Nat} {b : Nat → Nat} {M : Nat → Nat → Int32} (hB : fp_Bc b n M) : ∀ (m j e : Nat) (v1 : Value), p0 + j + m = e → e ≤ n → (∀ i, p0 ≤ i → i < e → fp_di (b i) = true) → ai_run (d + 1) 98 1 [.ref 28, v1, .int (nI e), .int (nI (fp_nu b p0 j)), .int (nI (p0 + j))] [] (hC al kl M) = some (.inl (some (.int (nI (1000 + fp_nu b p0 (j + m))))), hC al kl M)
  | 0, j, e, v1, h, he, hd => by
    have hn := hB.1
    rw [bq_98_1, if_pos (nI_le (by omega) (by omega)), bq_98_3, show (1000 : Int32) = nI 1000 from rfl, nI_add, Nat.add_zero]
  | m + 1, j, e, v1, h, he, hd => by
    obtain ⟨h1, h2, h3⟩ := id hB
    obtain ⟨e1, e2⟩ := h3 (p0 + j) (by omega)
    have hdj := of_decide_eq_true (hd (p0 + j) (by omega) (by omega))
    rw [bq_98_1, if_neg (nI_ge (by omega) (by omega)), fw_215 hB (show p0 + j < n by omega), fb_s, bq_98_2, show (10 : Int32) = nI 10 from rfl, show (48 : Int32) = nI 48 from rfl, pk_mul, nI_add, fi_sub (by omega), nI_1, show fp_nu b p0 j * 10 + b (p0 + j) - 48 = fp_nu b p0 (j + 1) by
      show _ = 10 * fp_nu b p0 j + (b (p0 + j) - 48)
      omega, show p0 + j + 1 = p0 + (j + 1) by omega, fl_98 hB m (j + 1) e _ (by omega) he hd, show j + 1 + m = j + (m + 1) by omega]
theorem fp_sat : ∀ j, j < 10 → ai_strs[j]? = some ((fp_w j).map nI) ∧ ai_strs[10]? = some ((fp_w 6).map nI) := by decide +kernel
theorem fl_100 {d : Nat} {al : Nat × Nat} {kl n p j : Nat} {b : Nat → Nat} {M : Nat → Nat → Int32} (hB : fp_Bc b n M) (hj : j < 10) (hp : p + (fp_w j).length ≤ n) : ∀ (m i : Nat) (v3 : Value), i + m = (fp_w j).length → (∀ k, k < i → b (p + k) = (fp_w j).getD k 0) → ai_run (d + 1) 100 3 [.ref 28, .retAddr (j + 1), .int (nI p), v3, .int (nI i)] [] (hC al kl M) = some (.inl (some (.int (fn_b (∀ k, k < (fp_w j).length → b (p + k) = (fp_w j).getD k 0)))), hC al kl M)
  | 0, i, v3, h, hk => by
    have hw := fp_w_ok j hj
    have hn := hB.1
    have e : ai_prim 300 [.retAddr (j + 1)] (hC al kl M) = some (.inl (some (.int (nI (fp_w j).length))), hC al kl M) := by
      show (match ai_strs[j]? with
        | some s => some (Sum.inl (some (Value.int (Int32.ofNat s.length))), hC al kl M)
        | none => none) = _
      rw [(fp_sat j hj).1]
      show some (Sum.inl (some (Value.int (Int32.ofNat ((fp_w j).map nI).length))), hC al kl M) = _
      rw [List.length_map]
      rfl
    rw [bq_100_3, e, fb_s, bq_100_4, if_pos (nI_le (by omega) (by omega)), bq_100_8]
    unfold fn_b
    rw [if_pos (fun k hk' => hk k (by omega))]
  | m + 1, i, v3, h, hk => by
    have hw := fp_w_ok j hj
    obtain ⟨h1, h2, h3⟩ := id hB
    obtain ⟨e1, e2⟩ := h3 (p + i) (by omega)
    have hwi := hw.2 i (by omega)
    have e : ai_prim 300 [.retAddr (j + 1)] (hC al kl M) = some (.inl (some (.int (nI (fp_w j).length))), hC al kl M) := by
      show (match ai_strs[j]? with
        | some s => some (Sum.inl (some (Value.int (Int32.ofNat s.length))), hC al kl M)
        | none => none) = _
      rw [(fp_sat j hj).1]
      show some (Sum.inl (some (Value.int (Int32.ofNat ((fp_w j).map nI).length))), hC al kl M) = _
      rw [List.length_map]
      rfl
    have e' : ai_prim 301 [.retAddr (j + 1), .int (nI i)] (hC al kl M) = some (.inl (some (.int (nI ((fp_w j).getD i 0)))), hC al kl M) := by
      show (match ai_strs[j]? with
        | some s => cond (ai_in (nI i) s.length) (some (Sum.inl (some (Value.int (s.getD (nI i).toNatClampNeg 0))), hC al kl M)) none
        | none => none) = _
      rw [(fp_sat j hj).1]
      show cond (ai_in (nI i) ((fp_w j).map nI).length) (some (Sum.inl (some (Value.int (((fp_w j).map nI).getD (nI i).toNatClampNeg 0))), hC al kl M)) none = _
      rw [List.length_map, fi_in (by omega), decide_eq_true (by omega), cond_true, nI_clamp (by omega)]
      have hi : i < (fp_w j).length := by omega
      simp [List.getD, List.getElem?_map, hi]
    rw [bq_100_3, e, fb_s, bq_100_4, if_neg (nI_ge (by omega) (by omega)), nI_add, fw_215 hB (show p + i < n by omega), fb_s, bq_100_5, e', fb_s, bq_100_6]
    by_cases c : b (p + i) = (fp_w j).getD i 0
    · rw [if_pos (by rw [c]), bq_100_7, nI_1, fl_100 hB hj hp m (i + 1) _ (by omega) (fun k hk' => by
        by_cases ek : k = i
        · rw [ek]; exact c
        · exact hk k (by omega))]
    · rw [if_neg (fun z => c ((nI_eq (by omega) (by omega)).mp z))]
      unfold fn_b
      rw [if_neg (fun z => c (z i (by omega)))]
theorem fw_100 {d : Nat} {al : Nat × Nat} {kl n p m j : Nat} {b : Nat → Nat} {M : Nat → Nat → Int32} (hB : fp_Bc b n M) (hj : j < 10) (hp : p + m ≤ n) (hb : ∀ i, i < m → fp_le (b (p + i)) = true) {v4 : Value} : ai_run (d + 1) 100 0 [.ref 28, .retAddr (j + 1), .int (nI p), .int (nI (p + m)), v4] [] (hC al kl M) = some (.inl (some (.int (fn_b (fp_en b p m = fp_h j)))), hC al kl M) := by
  have hn := hB.1
  have hw := fp_w_ok j hj
  have e : ai_prim 300 [.retAddr (j + 1)] (hC al kl M) = some (.inl (some (.int (nI (fp_w j).length))), hC al kl M) := by
    show (match ai_strs[j]? with
      | some s => some (Sum.inl (some (Value.int (Int32.ofNat s.length))), hC al kl M)
      | none => none) = _
    rw [(fp_sat j hj).1]
    show some (Sum.inl (some (Value.int (Int32.ofNat ((fp_w j).map nI).length))), hC al kl M) = _
    rw [List.length_map]
    rfl
  rw [bq_100_0, fi_sub (by omega), Nat.add_sub_cancel_left, e, fb_s, bq_100_1]
  by_cases c : m = (fp_w j).length
  · subst c
    rw [if_pos rfl, bq_100_2, show (0 : Int32) = nI 0 from rfl, fl_100 hB hj hp (fp_w j).length 0 _ (by omega) (fun k hk => absurd hk (Nat.not_lt_zero _))]
    have : (∀ k, k < (fp_w j).length → b (p + k) = (fp_w j).getD k 0) ↔ fp_en b p (fp_w j).length = fp_h j := by
      rw [fp_h_iff hj hb]
      exact ⟨fun z => ⟨rfl, z⟩, fun z => z.2⟩
    unfold fn_b
    by_cases q : fp_en b p (fp_w j).length = fp_h j
    · rw [if_pos q, if_pos (this.mpr q)]
    · rw [if_neg q, if_neg (fun z => q (this.mp z))]
  · rw [if_neg (fun z => c ((nI_eq (by omega) (by omega)).mp z))]
    unfold fn_b
    rw [if_neg (fun z => c ((fp_h_iff hj hb).mp z).1)]
theorem fw_99 {d : Nat} {al : Nat × Nat} {kl n p m : Nat} {b : Nat → Nat} {M : Nat → Nat → Int32} (hB : fp_Bc b n M) (hp : p + m ≤ n) (hb : ∀ i, i < m → fp_le (b (p + i)) = true) : ai_run (d + 2) 99 0 [.ref 28, .int (nI p), .int (nI (p + m))] [] (hC al kl M) = some (.inl (some (.int (fp_wt (fp_en b p m)))), hC al kl M) := by
  unfold fp_wt
  rw [bq_99_0, fw_100 (j := 0) hB (by omega) hp hb, fb_s, bq_99_1]
  by_cases c0 : fp_en b p m = fp_h 0
  · rw [if_neg (fun z => fn_b0.mp z c0), if_pos c0]
  rw [if_pos (fn_b0.mpr c0), if_neg c0, bq_99_2, fw_100 (j := 1) hB (by omega) hp hb, fb_s, bq_99_3]
  by_cases c1 : fp_en b p m = fp_h 1
  · rw [if_neg (fun z => fn_b0.mp z c1), if_pos c1]
  rw [if_pos (fn_b0.mpr c1), if_neg c1, bq_99_4, fw_100 (j := 2) hB (by omega) hp hb, fb_s, bq_99_5]
  by_cases c2 : fp_en b p m = fp_h 2
  · rw [if_neg (fun z => fn_b0.mp z c2), if_pos c2]
  rw [if_pos (fn_b0.mpr c2), if_neg c2, bq_99_6, fw_100 (j := 3) hB (by omega) hp hb, fb_s, bq_99_7]
  by_cases c3 : fp_en b p m = fp_h 3
  · rw [if_neg (fun z => fn_b0.mp z c3), if_pos c3]
  rw [if_pos (fn_b0.mpr c3), if_neg c3, bq_99_8, fw_100 (j := 4) hB (by omega) hp hb, fb_s, bq_99_9]
  by_cases c4 : fp_en b p m = fp_h 4
  · rw [if_neg (fun z => fn_b0.mp z c4), if_pos c4]
  rw [if_pos (fn_b0.mpr c4), if_neg c4, bq_99_10, fw_100 (j := 5) hB (by omega) hp hb, fb_s, bq_99_11]
  by_cases c5 : fp_en b p m = fp_h 5
  · rw [if_neg (fun z => fn_b0.mp z c5), if_pos c5]
  rw [if_pos (fn_b0.mpr c5), if_neg c5, bq_99_12, fw_100 (j := 6) hB (by omega) hp hb, fb_s, bq_99_13]
  by_cases c6 : fp_en b p m = fp_h 6
  · rw [if_neg (fun z => fn_b0.mp z c6), if_pos c6]
  rw [if_pos (fn_b0.mpr c6), if_neg c6, bq_99_14, fw_100 (j := 7) hB (by omega) hp hb, fb_s, bq_99_15]
  by_cases c7 : fp_en b p m = fp_h 7
  · rw [if_neg (fun z => fn_b0.mp z c7), if_pos c7]
  rw [if_pos (fn_b0.mpr c7), if_neg c7, bq_99_16, fw_100 (j := 8) hB (by omega) hp hb, fb_s, bq_99_17]
  by_cases c8 : fp_en b p m = fp_h 8
  · rw [if_neg (fun z => fn_b0.mp z c8), if_pos c8]
  rw [if_pos (fn_b0.mpr c8), if_neg c8, bq_99_18, fw_100 (j := 9) hB (by omega) hp hb, fb_s, bq_99_19]
  by_cases c9 : fp_en b p m = fp_h 9
  · rw [if_neg (fun z => fn_b0.mp z c9), if_pos c9]
  rw [if_pos (fn_b0.mpr c9), if_neg c9, bq_99_20]
theorem fw_103 {d c : Nat} {hp : ai_Hp} (hc : c ≤ 255) : ai_run d 103 0 [.int (nI c)] [] hp = some (.inl (some (.int (fn_bi (fp_sg c)))), hp) := by
  have key : ∀ c, c < 256 → ((nI c = 60 ∨ nI c = 62 ∨ nI c = 61 ∨ nI c = 43 ∨ nI c = 42 ∨ nI c = 59) ↔ fp_sg c = true) := by decide +kernel
  have k := key c (by omega)
  rw [bq_103_0]
  by_cases c1 : nI c = 60
  · rw [if_pos c1, bq_103_1, bq_103_3, if_pos (Or.inr rfl), k.mp (Or.inl c1)]; rfl
  by_cases c2 : nI c = 62
  · rw [if_neg c1, if_pos c2, bq_103_1, bq_103_3, if_pos (Or.inr rfl), k.mp (Or.inr (Or.inl c2))]; rfl
  by_cases c3 : nI c = 61
  · rw [if_neg c1, if_neg c2, if_pos c3, bq_103_1, bq_103_3, if_pos (Or.inr rfl), k.mp (Or.inr (Or.inr (Or.inl c3)))]; rfl
  by_cases c4 : nI c = 43
  · rw [if_neg c1, if_neg c2, if_neg c3, if_pos c4, bq_103_1, bq_103_3, if_pos (Or.inr rfl), k.mp (Or.inr (Or.inr (Or.inr (Or.inl c4))))]; rfl
  by_cases c5 : nI c = 42
  · rw [if_neg c1, if_neg c2, if_neg c3, if_neg c4, if_pos c5, bq_103_1, bq_103_3, if_pos (Or.inr rfl), k.mp (Or.inr (Or.inr (Or.inr (Or.inr (Or.inl c5)))))]; rfl
  by_cases c6 : nI c = 59
  · rw [if_neg c1, if_neg c2, if_neg c3, if_neg c4, if_neg c5, if_pos c6, bq_103_1, bq_103_3, if_pos (Or.inr rfl), k.mp (Or.inr (Or.inr (Or.inr (Or.inr (Or.inr c6)))))]; rfl
  have : fp_sg c = false := by
    cases h : fp_sg c with
    | false => rfl
    | true =>
      rcases k.mpr h with z | z | z | z | z | z
      · exact absurd z c1
      · exact absurd z c2
      · exact absurd z c3
      · exact absurd z c4
      · exact absurd z c5
      · exact absurd z c6
  rw [if_neg c1, if_neg c2, if_neg c3, if_neg c4, if_neg c5, if_neg c6, bq_103_2, bq_103_3, if_pos (Or.inl rfl), this]; rfl
theorem fw_97 {d : Nat} {al : Nat × Nat} {kl n p : Nat} {b : Nat → Nat} {M : Nat → Nat → Int32} (hB : fp_Bc b n M) (hp : p ≤ n) : ai_run (d + 3) 97 0 [.ref 28, .int (nI p), .int (nI (if n ≤ p then p + 1 else fp_nx b n p))] [] (hC al kl M) = some (.inl (some (.int (fp_tok b n p))), hC al kl M) := by
  obtain ⟨h1, h2, h3⟩ := id hB
  rw [bq_97_0, h2]
  unfold fp_tok
  by_cases hpn : n ≤ p
  · rw [if_neg (nI_nlt hpn (by omega)), if_pos hpn]
  · obtain ⟨e1, e2⟩ := h3 p (by omega)
    rw [if_pos (nI_lt (by omega) (by omega)), if_neg hpn, if_neg hpn, bq_97_1, fw_101 hB (by omega), fb_s, bq_97_2, decide_eq_true (show p < n by omega), Bool.true_and]
    unfold fp_nx
    rw [if_neg hpn]
    cases c : fp_le (b p) with
    | true =>
      have hg := fp_en1_ge (P := fp_le) (b := b) (show p ≤ n by omega)
      have ha : ∀ i, i < fp_en1 fp_le b n p - p → fp_le (b (p + i)) = true := fun i hi => fp_run_all (n - p) p (p + i) (by omega) (by show p + i < fp_en1 fp_le b n p; omega)
      rw [if_neg (show ¬ fn_bi true = 0 by decide), if_pos rfl, if_pos rfl, fi_sub hg.1]
      by_cases c8 : 8 < fp_en1 fp_le b n p - p
      · rw [if_neg (fj_nge (c := 8) (n := 8) rfl c8 (by omega)), bq_97_4, if_pos c8]
      · have w := fw_99 (d := d) (al := al) (kl := kl) hB (p := p) (m := fp_en1 fp_le b n p - p) (by omega) ha
        rw [show p + (fp_en1 fp_le b n p - p) = fp_en1 fp_le b n p by omega] at w
        rw [if_pos (fj_ge (c := 8) (n := 8) rfl (by omega) (by omega)), bq_97_3, w, fb_s, bq_97_4, if_neg c8]
    | false =>
      rw [if_pos (show fn_bi false = 0 from rfl), if_neg (show ¬ false = true by decide), if_neg (show ¬ false = true by decide), bq_97_5, fw_102 hB (by omega), fb_s, bq_97_6, decide_eq_true (show p < n by omega), Bool.true_and]
      cases c2 : fp_di (b p) with
      | true =>
        have hg := fp_en1_ge (P := fp_di) (b := b) (show p ≤ n by omega)
        rw [if_neg (show ¬ fn_bi true = 0 by decide), if_pos rfl, if_pos rfl, fi_sub hg.1]
        by_cases c3 : 3 < fp_en1 fp_di b n p - p
        · rw [if_neg (fj_nge (c := 3) (n := 3) rfl c3 (by omega)), bq_97_8, if_pos c3]
        · have w := fl_98 (d := d + 1) (al := al) (kl := kl) (p0 := p) hB (fp_en1 fp_di b n p - p) 0 (fp_en1 fp_di b n p) (.int (nI p)) (by omega) hg.2 (fun i hi1 hi2 => fp_run_all (n - p) p i hi1 hi2)
          rw [Nat.zero_add] at w
          have w' : ai_run (d + 2) 98 1 [.ref 28, .int (nI p), .int (nI (fp_en1 fp_di b n p)), .int 0, .int (nI p)] [] (hC al kl M) = some (.inl (some (.int (nI (1000 + fp_nu b p (fp_en1 fp_di b n p - p))))), hC al kl M) := w
          rw [if_pos (fj_ge (c := 3) (n := 3) rfl (by omega) (by omega)), bq_97_7, bq_98_0, w', fb_s, bq_97_8, if_neg c3]
      | false =>
        rw [if_pos (show fn_bi false = 0 from rfl), if_neg (show ¬ false = true by decide), bq_97_9, fw_215 hB (show p < n by omega), fb_s, bq_97_10, fw_103 e2, fb_s, bq_97_11]
        cases c3 : fp_sg (b p) with
        | true => rw [if_neg (show ¬ fn_bi true = 0 by decide), fw_215 hB (show p < n by omega), fb_s, bq_97_12, bq_97_14]; rfl
        | false => rw [if_pos (show fn_bi false = 0 from rfl), bq_97_13, bq_97_14]; rfl
