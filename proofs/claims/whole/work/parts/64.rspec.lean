/-! routes: what is to be found -/
/-- how many places; the need of a day; what can be had of a place; may the court be at a place on a day; the hours of a way on a day (0: none) -/
abbrev fr_A : Type := Nat × (Nat → Nat) × (Nat → Nat) × (Nat → Nat → Bool) × (Nat → Nat → Nat → Nat)
def fr_F : Nat := 1000000000
def fr_mn (g : Nat → Nat) : Nat → Nat
  | 0 => fr_F
  | n + 1 => min (fr_mn g n) (g n)
def fr_ad (h r : Nat) : Nat := if r = fr_F then fr_F else h + r
/-- the least hours: m days before the last, on day k, at p, with the places s seen and l left to eat at p -/
def fr_G (A : fr_A) : Nat → Nat → Nat → Nat → Nat → Nat
  | 0, _, _, _, _ => 0
  | m + 1, k, p, s, l => min (if A.2.2.2.1 p (k + 1) = true ∧ A.2.1 (k + 1) ≤ l then fr_G A m (k + 1) p s (l - A.2.1 (k + 1)) else fr_F) (fr_mn (fun q => if s.testBit q = true then fr_F else if A.2.2.2.2 p q k = 0 then fr_F else fr_ad (A.2.2.2.2 p q k) (if A.2.2.2.1 q (k + 1) = true ∧ A.2.1 (k + 1) ≤ A.2.2.1 q then fr_G A m (k + 1) q (s ||| 2 ^ q) (A.2.2.1 q - A.2.1 (k + 1)) else fr_F)) A.1)
def fr_R (A : fr_A) (m k p s l : Nat) : Nat := if A.2.2.2.1 p k = true ∧ A.2.1 k ≤ l then fr_G A m k p s (l - A.2.1 k) else fr_F
def fr_W (A : fr_A) (m k p q s : Nat) : Nat := if s.testBit q = true then fr_F else if A.2.2.2.2 p q k = 0 then fr_F else fr_ad (A.2.2.2.2 p q k) (fr_R A m (k + 1) q (s ||| 2 ^ q) (A.2.2.1 q))
def fr_E (A : fr_A) : Nat → Nat → Nat → Nat → Nat
  | 0, _, _, _ => 0
  | m + 1, k, p, s => fr_mn (fun q => fr_W A m k p q s) A.1
theorem fr_G_s {A : fr_A} {m k p s l : Nat} : fr_G A (m + 1) k p s l = min (fr_R A m (k + 1) p s l) (fr_E A (m + 1) k p s) := rfl
/-- the first day on which a row ends -/
def fr_x (A : fr_A) : Nat → Nat → Nat → Nat → Nat
  | 0, k, _, _ => k
  | m + 1, k, p, l => if A.2.2.2.1 p k = true ∧ A.2.1 k ≤ l then fr_x A m (k + 1) p (l - A.2.1 k) else k
def fr_ms (g : Nat → Nat) : Nat → Nat → Nat
  | _, 0 => fr_F
  | i, n + 1 => min (g i) (fr_ms g (i + 1) n)
theorem fr_x_ge {A : fr_A} : ∀ (m k p l : Nat), k ≤ fr_x A m k p l ∧ fr_x A m k p l ≤ k + m
  | 0, k, p, l => ⟨Nat.le_refl _, Nat.le_refl _⟩
  | m + 1, k, p, l => by
    unfold fr_x
    by_cases c : A.2.2.2.1 p k = true ∧ A.2.1 k ≤ l
    · rw [if_pos c]
      have := fr_x_ge (A := A) m (k + 1) p (l - A.2.1 k)
      omega
    · rw [if_neg c]; omega
theorem fr_row {A : fr_A} {p s : Nat} : ∀ (m k l : Nat), fr_R A m k p s l = if fr_x A (m + 1) k p l = k + m + 1 then 0 else fr_ms (fun j => fr_E A (k + m - j) j p s) k (fr_x A (m + 1) k p l - k)
  | 0, k, l => by
    show (if A.2.2.2.1 p k = true ∧ A.2.1 k ≤ l then 0 else fr_F) = if (if A.2.2.2.1 p k = true ∧ A.2.1 k ≤ l then k + 1 else k) = k + 0 + 1 then 0 else fr_ms (fun j => fr_E A (k + 0 - j) j p s) k ((if A.2.2.2.1 p k = true ∧ A.2.1 k ≤ l then k + 1 else k) - k)
    by_cases c : A.2.2.2.1 p k = true ∧ A.2.1 k ≤ l
    · rw [if_pos c, if_pos c, if_pos rfl]
    · rw [if_neg c, if_neg c, if_neg (by omega), Nat.sub_self]; rfl
  | m + 1, k, l => by
    have hx : fr_x A (m + 1 + 1) k p l = if A.2.2.2.1 p k = true ∧ A.2.1 k ≤ l then fr_x A (m + 1) (k + 1) p (l - A.2.1 k) else k := rfl
    rw [hx]
    unfold fr_R
    by_cases c : A.2.2.2.1 p k = true ∧ A.2.1 k ≤ l
    · rw [if_pos c, if_pos c, fr_G_s, fr_row m (k + 1) (l - A.2.1 k)]
      have hg := fr_x_ge (A := A) (m + 1) (k + 1) p (l - A.2.1 k)
      by_cases e : fr_x A (m + 1) (k + 1) p (l - A.2.1 k) = k + 1 + m + 1
      · rw [if_pos e, if_pos (by omega), Nat.zero_min]
      · rw [if_neg e, if_neg (by omega), show fr_x A (m + 1) (k + 1) p (l - A.2.1 k) - k = (fr_x A (m + 1) (k + 1) p (l - A.2.1 k) - (k + 1)) + 1 by omega]
        show _ = min (fr_E A (k + (m + 1) - k) k p s) (fr_ms (fun j => fr_E A (k + (m + 1) - j) j p s) (k + 1) _)
        rw [show k + (m + 1) - k = m + 1 by omega, Nat.min_comm, show k + (m + 1) = k + 1 + m by omega]
    · rw [if_neg c, if_neg c, if_neg (by omega), Nat.sub_self]; rfl
theorem fr_mn_at (g : Nat → Nat) : ∀ n, fr_mn g n = fr_F ∨ ∃ q, q < n ∧ fr_mn g n = g q
  | 0 => Or.inl rfl
  | n + 1 => by
    show min (fr_mn g n) (g n) = fr_F ∨ ∃ q, q < n + 1 ∧ min (fr_mn g n) (g n) = g q
    by_cases c : fr_mn g n ≤ g n
    · rw [Nat.min_eq_left c]
      rcases fr_mn_at g n with h | ⟨q, q1, q2⟩
      · exact Or.inl h
      · exact Or.inr ⟨q, by omega, q2⟩
    · rw [Nat.min_eq_right (by omega)]
      exact Or.inr ⟨n, by omega, rfl⟩
theorem fr_mn_le (g : Nat → Nat) : ∀ n, fr_mn g n ≤ fr_F
  | 0 => Nat.le_refl _
  | n + 1 => Nat.le_trans (Nat.min_le_left _ _) (fr_mn_le g n)
/-- how many places aren't seen yet -/
def fr_c (n s : Nat) : Nat := fn_ct (fun q => !s.testBit q) n
theorem fr_c_or {n s q : Nat} (hq : q < n) (hs : s.testBit q = false) : fr_c n s = fr_c n (s ||| 2 ^ q) + 1 := by
  unfold fr_c
  rw [fn_ct_rm (x := q) n hq (by rw [hs]; rfl)]
  congr 1
  refine fn_ct_cg n (fun y _ => ?_)
  rw [Nat.testBit_or, Nat.testBit_two_pow, Bool.not_or]
  by_cases e : y = q
  · subst e; simp
  · have : (y == q) = false := beq_eq_false_iff_ne.mpr e
    rw [this, decide_eq_false (fun z => e z.symm)]
/-- finite ones are small -/
def fr_sm (n s v : Nat) : Prop := v = fr_F ∨ v ≤ 16 * fr_c n s
theorem fr_sm.min {n s v w : Nat} (h : fr_sm n s v) (h' : fr_sm n s w) : fr_sm n s (min v w) := by
  by_cases c : v ≤ w
  · rw [Nat.min_eq_left c]; exact h
  · rw [Nat.min_eq_right (by omega)]; exact h'
theorem fr_G_sm {A : fr_A} (hA : ∀ p q k, A.2.2.2.2 p q k ≤ 16) : ∀ (m k p s l : Nat), fr_sm A.1 s (fr_G A m k p s l)
  | 0, k, p, s, l => Or.inr (Nat.zero_le _)
  | m + 1, k, p, s, l => by
    rw [fr_G_s]
    refine fr_sm.min ?_ ?_
    · unfold fr_R
      by_cases c : A.2.2.2.1 p (k + 1) = true ∧ A.2.1 (k + 1) ≤ l
      · rw [if_pos c]; exact fr_G_sm hA m _ _ _ _
      · rw [if_neg c]; exact Or.inl rfl
    · show fr_sm A.1 s (fr_mn (fun q => fr_W A m k p q s) A.1)
      rcases fr_mn_at (fun q => fr_W A m k p q s) A.1 with h | ⟨q, q1, q2⟩
      · exact Or.inl h
      · rw [q2]
        show fr_sm A.1 s (fr_W A m k p q s)
        unfold fr_W
        cases hs : s.testBit q with
        | true => rw [if_pos rfl]; exact Or.inl rfl
        | false =>
          rw [if_neg (by decide)]
          by_cases h0 : A.2.2.2.2 p q k = 0
          · rw [if_pos h0]; exact Or.inl rfl
          · rw [if_neg h0]
            unfold fr_ad fr_R
            by_cases c : A.2.2.2.1 q (k + 1) = true ∧ A.2.1 (k + 1) ≤ A.2.2.1 q
            · rw [if_pos c]
              rcases fr_G_sm hA m (k + 1) q (s ||| 2 ^ q) (A.2.2.1 q - A.2.1 (k + 1)) with g | g
              · rw [if_pos g]; exact Or.inl rfl
              · by_cases e : fr_G A m (k + 1) q (s ||| 2 ^ q) (A.2.2.1 q - A.2.1 (k + 1)) = fr_F
                · rw [if_pos e]; exact Or.inl rfl
                · rw [if_neg e]
                  have := hA p q k
                  have := fr_c_or q1 hs
                  exact Or.inr (by omega)
            · rw [if_neg c, if_pos rfl]; exact Or.inl rfl
theorem fr_R_sm {A : fr_A} (hA : ∀ p q k, A.2.2.2.2 p q k ≤ 16) (m k p s l : Nat) : fr_sm A.1 s (fr_R A m k p s l) := by
  unfold fr_R
  by_cases c : A.2.2.2.1 p k = true ∧ A.2.1 k ≤ l
  · rw [if_pos c]; exact fr_G_sm hA m _ _ _ _
  · rw [if_neg c]; exact Or.inl rfl
theorem fr_W_sm {A : fr_A} (hA : ∀ p q k, A.2.2.2.2 p q k ≤ 16) {m k p q s : Nat} (hq : q < A.1) : fr_sm A.1 s (fr_W A m k p q s) := by
  unfold fr_W
  cases hs : s.testBit q with
  | true => rw [if_pos rfl]; exact Or.inl rfl
  | false =>
    rw [if_neg (by decide)]
    by_cases h0 : A.2.2.2.2 p q k = 0
    · rw [if_pos h0]; exact Or.inl rfl
    · rw [if_neg h0]
      unfold fr_ad
      by_cases e : fr_R A m (k + 1) q (s ||| 2 ^ q) (A.2.2.1 q) = fr_F
      · rw [if_pos e]; exact Or.inl rfl
      · rw [if_neg e]
        have := hA p q k
        have := fr_c_or hq hs
        have := (fr_R_sm hA m (k + 1) q (s ||| 2 ^ q) (A.2.2.1 q)).resolve_left e
        exact Or.inr (by omega)
theorem fr_mn_sm {A : fr_A} {s : Nat} {g : Nat → Nat} (hg : ∀ q, q < A.1 → fr_sm A.1 s (g q)) : ∀ n, n ≤ A.1 → fr_sm A.1 s (fr_mn g n)
  | 0, _ => Or.inl rfl
  | n + 1, h => (fr_mn_sm hg n (by omega)).min (hg n (by omega))
theorem fr_E_sm {A : fr_A} (hA : ∀ p q k, A.2.2.2.2 p q k ≤ 16) : ∀ (m k p s : Nat), fr_sm A.1 s (fr_E A m k p s)
  | 0, _, _, _ => Or.inr (Nat.zero_le _)
  | m + 1, k, p, s => fr_mn_sm (fun q hq => fr_W_sm hA hq) A.1 (Nat.le_refl _)
theorem fr_c_le {P : Nat → Bool} : ∀ n : Nat, fn_ct P n ≤ n
  | 0 => Nat.le_refl _
  | n + 1 => by
    have := fr_c_le (P := P) n
    show fn_ct P n + (if P n = true then 1 else 0) ≤ n + 1
    by_cases c : P n = true
    · rw [if_pos c]; omega
    · rw [if_neg c]; omega
theorem fr_sm.lt {n s v : Nat} (hn : n ≤ 9) (h : fr_sm n s v) : v < 2 ^ 31 ∧ v ≤ fr_F := by
  have : fr_c n s ≤ n := fr_c_le n
  unfold fr_F
  rcases h with h | h
  · unfold fr_F at h; omega
  · omega
/-- the place to go to -/
def fr_fd (P : Nat → Bool) : Nat → Nat → Nat
  | i, 0 => i
  | i, m + 1 => if P i = true then i else fr_fd P (i + 1) m
def fr_pk (A : fr_A) (m k p s l : Nat) (q : Nat) : Bool := if q = p then decide (fr_R A m (k + 1) p s l = fr_G A (m + 1) k p s l) else decide (fr_W A m k p q s = fr_G A (m + 1) k p s l)
def fr_nx (A : fr_A) (m k p s l : Nat) : Nat := fr_fd (fr_pk A m k p s l) 0 A.1
theorem fr_fd_at {P : Nat → Bool} : ∀ (m i : Nat), (∃ q, i ≤ q ∧ q < i + m ∧ P q = true) → i ≤ fr_fd P i m ∧ fr_fd P i m < i + m ∧ P (fr_fd P i m) = true
  | 0, i, h => by obtain ⟨q, h1, h2, -⟩ := h; omega
  | m + 1, i, h => by
    unfold fr_fd
    by_cases c : P i = true
    · rw [if_pos c]; exact ⟨by omega, by omega, c⟩
    · rw [if_neg c]
      obtain ⟨q, h1, h2, h3⟩ := h
      have hq : q ≠ i := fun e => c (e ▸ h3)
      have := fr_fd_at (P := P) m (i + 1) ⟨q, by omega, by omega, h3⟩
      exact ⟨by omega, by omega, this.2.2⟩
theorem fr_nx_at {A : fr_A} {m k p s l : Nat} (hp : p < A.1) (hs : s.testBit p = true) (hf : fr_G A (m + 1) k p s l ≠ fr_F) : fr_nx A m k p s l < A.1 ∧ fr_pk A m k p s l (fr_nx A m k p s l) = true := by
  have := fr_fd_at (P := fr_pk A m k p s l) A.1 0 (by
    rw [fr_G_s] at hf
    by_cases c : fr_R A m (k + 1) p s l ≤ fr_E A (m + 1) k p s
    · refine ⟨p, by omega, by omega, ?_⟩
      unfold fr_pk
      rw [if_pos rfl, fr_G_s, Nat.min_eq_left c]
      exact decide_eq_true rfl
    · rw [Nat.min_eq_right (by omega)] at hf
      rcases fr_mn_at (fun q => fr_W A m k p q s) A.1 with h | ⟨q, q1, q2⟩
      · exact absurd h hf
      · have hqp : q ≠ p := fun e => by
          apply hf
          show fr_mn (fun q => fr_W A m k p q s) A.1 = fr_F
          rw [q2, e]
          show fr_W A m k p p s = fr_F
          unfold fr_W
          rw [if_pos hs]
        refine ⟨q, by omega, by omega, ?_⟩
        unfold fr_pk
        rw [if_neg hqp, fr_G_s, Nat.min_eq_right (by omega)]
        exact decide_eq_true q2.symm)
  unfold fr_nx
  exact ⟨by omega, this.2.2⟩
/-- the place of day j -/
def fr_st (A : fr_A) : Nat → Nat → Nat → Nat → Nat → Nat → Nat
  | 0, _, p, _, _, _ => p
  | m + 1, k, p, s, l, j => if j ≤ k then p else if fr_nx A m k p s l = p then fr_st A m (k + 1) p s (l - A.2.1 (k + 1)) j else fr_st A m (k + 1) (fr_nx A m k p s l) (s ||| 2 ^ fr_nx A m k p s l) (A.2.2.1 (fr_nx A m k p s l) - A.2.1 (k + 1)) j
/-- the step that is taken -/
theorem fr_stay {A : fr_A} {m k p s l : Nat} (hp : p < A.1) (hs : s.testBit p = true) (hf : fr_G A (m + 1) k p s l ≠ fr_F) (he : fr_nx A m k p s l = p) : A.2.2.2.1 p (k + 1) = true ∧ A.2.1 (k + 1) ≤ l ∧ fr_G A m (k + 1) p s (l - A.2.1 (k + 1)) = fr_G A (m + 1) k p s l := by
  have h := (fr_nx_at hp hs hf).2
  rw [he] at h
  unfold fr_pk at h
  rw [if_pos rfl, decide_eq_true_iff] at h
  rw [← h] at hf ⊢
  unfold fr_R at hf ⊢
  by_cases c : A.2.2.2.1 p (k + 1) = true ∧ A.2.1 (k + 1) ≤ l
  · rw [if_pos c]; exact ⟨c.1, c.2, rfl⟩
  · rw [if_neg c] at hf; exact absurd rfl hf
theorem fr_move {A : fr_A} {m k p s l q : Nat} (hp : p < A.1) (hs : s.testBit p = true) (hf : fr_G A (m + 1) k p s l ≠ fr_F) (hq : fr_nx A m k p s l = q) (he : q ≠ p) : q < A.1 ∧ s.testBit q = false ∧ A.2.2.2.2 p q k ≠ 0 ∧ A.2.2.2.1 q (k + 1) = true ∧ A.2.1 (k + 1) ≤ A.2.2.1 q ∧ A.2.2.2.2 p q k + fr_G A m (k + 1) q (s ||| 2 ^ q) (A.2.2.1 q - A.2.1 (k + 1)) = fr_G A (m + 1) k p s l ∧ fr_G A m (k + 1) q (s ||| 2 ^ q) (A.2.2.1 q - A.2.1 (k + 1)) ≠ fr_F := by
  obtain ⟨h0, h⟩ := fr_nx_at hp hs hf
  rw [hq] at h h0
  unfold fr_pk at h
  rw [if_neg he, decide_eq_true_iff] at h
  rw [← h] at hf ⊢
  unfold fr_W at hf ⊢
  cases hb : s.testBit q with
  | true => rw [hb, if_pos rfl] at hf; exact absurd rfl hf
  | false =>
    rw [hb, if_neg (by decide)] at hf
    rw [if_neg (by decide)]
    by_cases hz : A.2.2.2.2 p q k = 0
    · rw [if_pos hz] at hf; exact absurd rfl hf
    · rw [if_neg hz] at hf ⊢
      unfold fr_ad at hf ⊢
      by_cases e : fr_R A m (k + 1) q (s ||| 2 ^ q) (A.2.2.1 q) = fr_F
      · rw [if_pos e] at hf; exact absurd rfl hf
      · rw [if_neg e]
        unfold fr_R at e ⊢
        by_cases c : A.2.2.2.1 q (k + 1) = true ∧ A.2.1 (k + 1) ≤ A.2.2.1 q
        · rw [if_pos c] at e ⊢; exact ⟨h0, rfl, hz, c.1, c.2, rfl, e⟩
        · rw [if_neg c] at e; exact absurd rfl e
