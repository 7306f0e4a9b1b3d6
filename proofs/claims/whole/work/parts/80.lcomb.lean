/-! lodgings: sums, orders, twins -/
theorem fd_su_ad {f g : Nat → Nat} : ∀ n : Nat, fd_su (fun i => f i + g i) n = fd_su f n + fd_su g n
  | 0 => rfl
  | n + 1 => by
    show fd_su (fun i => f i + g i) n + (f n + g n) = fd_su f n + f n + (fd_su g n + g n)
    rw [fd_su_ad n]; omega
theorem fd_su_ex {f : Nat → Nat} : ∀ n : Nat, 0 < fd_su f n → ∃ i, i < n ∧ 0 < f i
  | 0, h => absurd h (Nat.lt_irrefl _)
  | n + 1, h => by
    by_cases e : 0 < f n
    · exact ⟨n, by omega, e⟩
    · have h' : 0 < fd_su f n + f n := h
      obtain ⟨i, i1, i2⟩ := fd_su_ex (f := f) n (by omega)
      exact ⟨i, by omega, i2⟩
theorem fd_su_on {f : Nat → Nat} : ∀ (n i : Nat), i < n → f i ≤ fd_su f n
  | 0, i, h => absurd h (Nat.not_lt_zero _)
  | n + 1, i, h => by
    show f i ≤ fd_su f n + f n
    by_cases e : i = n
    · rw [e]; omega
    · have := fd_su_on (f := f) n i (by omega); omega
theorem fd_su_tw {f : Nat → Nat} : ∀ (n i j : Nat), i < j → j < n → f i + f j ≤ fd_su f n
  | 0, i, j, _, h => absurd h (Nat.not_lt_zero _)
  | n + 1, i, j, hi, h => by
    show f i + f j ≤ fd_su f n + f n
    by_cases e : j = n
    · have := fd_su_on (f := f) n i (by omega)
      rw [e]; omega
    · have := fd_su_tw (f := f) n i j hi (by omega); omega
theorem fd_su_i1 (r : Nat) : ∀ n : Nat, fd_su (fun x => if x = r then 1 else 0) n = if r < n then 1 else 0
  | 0 => rfl
  | n + 1 => by
    show fd_su (fun x => if x = r then 1 else 0) n + (if n = r then 1 else 0) = _
    rw [fd_su_i1 r n]
    by_cases h1 : r < n
    · rw [if_pos h1, if_neg (by omega), if_pos (by omega)]
    · rw [if_neg h1]
      by_cases h2 : n = r
      · rw [if_pos h2, if_pos (by omega)]
      · rw [if_neg h2, if_neg (by omega)]
/-- an order of the first n -/
def fd_pm (n : Nat) (s : Nat → Nat) : Prop := (∀ i, i < n → s i < n) ∧ ∀ f : Nat → Nat, fd_su (fun i => f (s i)) n = fd_su f n
theorem fd_pm.on {n : Nat} {s : Nat → Nat} (h : fd_pm n s) {r : Nat} (hr : r < n) : ∃ i, i < n ∧ s i = r := by
  have h1 := h.2 (fun x => if x = r then 1 else 0)
  rw [fd_su_i1, if_pos hr] at h1
  obtain ⟨i, i1, i2⟩ := fd_su_ex n (by rw [h1]; exact Nat.one_pos)
  refine ⟨i, i1, ?_⟩
  by_cases e : s i = r
  · exact e
  · have : ¬ 0 < (if s i = r then 1 else 0) := by rw [if_neg e]; omega
    exact absurd i2 this
theorem fd_pm.inj {n : Nat} {s : Nat → Nat} (h : fd_pm n s) {i j : Nat} (hi : i < n) (hj : j < n) (e : s i = s j) : i = j := by
  have key : ∀ i j, i < j → j < n → s i = s j → False := fun i j hij hj e => by
    have h1 := h.2 (fun x => if x = s j then 1 else 0)
    rw [fd_su_i1, if_pos (h.1 j hj)] at h1
    have h2 := fd_su_tw (f := fun k => if s k = s j then 1 else 0) n i j hij hj
    rw [if_pos e, if_pos rfl] at h2
    omega
  rcases Nat.lt_trichotomy i j with g | g | g
  · exact (key i j g hj e).elim
  · exact g
  · exact (key j i g hi e.symm).elim
/-- x put in at place i of the first n -/
def fd_pu (s : Nat → Nat) (i x : Nat) (j : Nat) : Nat := if j < i then s j else if j = i then x else s (j - 1)
theorem fd_su_pu {f s : Nat → Nat} {x : Nat} : ∀ (n i : Nat), i ≤ n → fd_su (fun j => f (fd_pu s i x j)) (n + 1) = fd_su (fun j => f (s j)) n + f x
  | 0, i, h => by
    have e : i = 0 := by omega
    subst e
    rfl
  | n + 1, i, h => by
    by_cases e : i = n + 1
    · subst e
      show fd_su (fun j => f (fd_pu s (n + 1) x j)) (n + 1) + f (fd_pu s (n + 1) x (n + 1)) = _
      rw [fd_su_cg (g := fun j => f (s j)) (n + 1) (fun j hj => by
        show f (fd_pu s (n + 1) x j) = _
        unfold fd_pu; rw [if_pos hj])]
      unfold fd_pu
      rw [if_neg (Nat.lt_irrefl _), if_pos rfl]
    · show fd_su (fun j => f (fd_pu s i x j)) (n + 1) + f (fd_pu s i x (n + 1)) = fd_su (fun j => f (s j)) n + f (s n) + f x
      rw [fd_su_pu n i (by omega)]
      have : fd_pu s i x (n + 1) = s n := by unfold fd_pu; rw [if_neg (by omega), if_neg (by omega)]; rfl
      rw [this]; omega
theorem fd_pm.pu {n i : Nat} {s : Nat → Nat} (h : fd_pm n s) (hi : i ≤ n) : fd_pm (n + 1) (fd_pu s i n) := by
  refine ⟨fun j hj => ?_, fun f => ?_⟩
  · unfold fd_pu
    by_cases h1 : j < i
    · rw [if_pos h1]; have := h.1 j (by omega); omega
    · rw [if_neg h1]
      by_cases h2 : j = i
      · rw [if_pos h2]; omega
      · rw [if_neg h2]; have := h.1 (j - 1) (by omega); omega
  · rw [fd_su_pu n i hi, h.2 f]; rfl
theorem fd_pm.cg {n : Nat} {s s' : Nat → Nat} (h : fd_pm n s) (e : ∀ i, i < n → s' i = s i) : fd_pm n s' := by
  refine ⟨fun i hi => by rw [e i hi]; exact h.1 i hi, fun f => ?_⟩
  rw [fd_su_cg (g := fun i => f (s i)) n (fun i hi => by show f (s' i) = _; rw [e i hi])]
  exact h.2 f
/-- from i on, m of them -/
def fd_st (f : Nat → Nat) : Nat → Nat → Nat
  | _, 0 => 0
  | i, m + 1 => f i + fd_st f (i + 1) m
theorem fd_st_su {f : Nat → Nat} : ∀ (m i : Nat), fd_su f i + fd_st f i m = fd_su f (i + m)
  | 0, i => rfl
  | m + 1, i => by
    have h1 := fd_st_su (f := f) m (i + 1)
    have h2 : fd_su f (i + 1) = fd_su f i + f i := rfl
    show fd_su f i + (f i + fd_st f (i + 1) m) = _
    rw [show i + (m + 1) = i + 1 + m by omega, ← h1, h2]; omega
theorem fd_st_cg {f g : Nat → Nat} : ∀ (m i : Nat), (∀ j, i ≤ j → j < i + m → f j = g j) → fd_st f i m = fd_st g i m
  | 0, _, _ => rfl
  | m + 1, i, h => by
    show f i + fd_st f (i + 1) m = g i + fd_st g (i + 1) m
    rw [h i (by omega) (by omega), fd_st_cg m (i + 1) (fun j h1 h2 => h j (by omega) (by omega))]
/-- two rooms change hands -/
def fd_sw (s t x : Nat) : Nat := if x = s then t else if x = t then s else x
theorem fd_sw_inj {s t x y : Nat} (h : fd_sw s t x = fd_sw s t y) : x = y := by
  unfold fd_sw at h
  split at h <;> split at h <;> (try split at h) <;> (try split at h) <;> omega
theorem fd_sw_t {s t : Nat} : fd_sw s t t = s := by
  unfold fd_sw
  by_cases e : t = s
  · rw [if_pos e, e]
  · rw [if_neg e, if_pos rfl]
theorem fd_sw_n {s t x : Nat} (h1 : x ≠ s) (h2 : x ≠ t) : fd_sw s t x = x := by
  unfold fd_sw; rw [if_neg h1, if_neg h2]
theorem fd_sw_f {s t x : Nat} {f : Nat → Nat} (h : f t = f s) : f (fd_sw s t x) = f x := by
  unfold fd_sw
  by_cases e : x = s
  · rw [if_pos e, e, h]
  · rw [if_neg e]
    by_cases e' : x = t
    · rw [if_pos e', e', h]
    · rw [if_neg e']
/-- the heaviest first gets the nearest: a change of hands that gives it the nearer room -/
theorem fd_ex {w k x : Nat → Nat} {P : Nat → Bool} {s y w0 : Nat} (hk : k s ≤ k y) : ∀ (m i : Nat), (∀ j, i ≤ j → j < i + m → P j = true → w j ≤ w0 ∧ x j ≠ y) → (∀ j j', i ≤ j → j < j' → j' < i + m → P j = true → P j' = true → x j ≠ x j') → (fd_st (fun j => if P j then w j * k (fd_sw s y (x j)) else 0) i m = fd_st (fun j => if P j then w j * k (x j) else 0) i m) ∨ ((∃ j, i ≤ j ∧ j < i + m ∧ P j = true ∧ x j = s) ∧ fd_st (fun j => if P j then w j * k (fd_sw s y (x j)) else 0) i m + w0 * k s ≤ fd_st (fun j => if P j then w j * k (x j) else 0) i m + w0 * k y)
  | 0, i, _, _ => Or.inl rfl
  | m + 1, i, h1, h2 => by
    show (_ + fd_st _ (i + 1) m = _ + fd_st _ (i + 1) m) ∨ (_ ∧ _ + fd_st _ (i + 1) m + _ ≤ _ + fd_st _ (i + 1) m + _)
    have ih := fd_ex (w := w) (x := x) (P := P) hk m (i + 1) (fun j a b => h1 j (by omega) (by omega)) (fun j j' a b c => h2 j j' (by omega) b (by omega))
    dsimp only
    cases hp : P i with
    | false =>
      rw [if_neg (by decide), if_neg (by decide)]
      rcases ih with e | ⟨⟨j, j1, j2, j3, j4⟩, e⟩
      · exact Or.inl (by rw [e])
      · exact Or.inr ⟨⟨j, by omega, by omega, j3, j4⟩, by omega⟩
    | true =>
      rw [if_pos rfl, if_pos rfl]
      obtain ⟨a1, a2⟩ := h1 i (by omega) (by omega) hp
      by_cases e : x i = s
      · rcases ih with e' | ⟨⟨j, j1, j2, j3, j4⟩, e'⟩
        · refine Or.inr ⟨⟨i, by omega, by omega, hp, e⟩, ?_⟩
          rw [e', e, show fd_sw s y s = y by unfold fd_sw; rw [if_pos rfl]]
          obtain ⟨d1, hd1⟩ : ∃ d1, w0 = w i + d1 := ⟨w0 - w i, by omega⟩
          have hmul : d1 * k s ≤ d1 * k y := Nat.mul_le_mul_left _ hk
          rw [hd1, Nat.add_mul, Nat.add_mul]
          omega
        · exact absurd (e.trans j4.symm) (h2 i j (by omega) (by omega) (by omega) hp j3)
      · rw [fd_sw_n e a2]
        rcases ih with e' | ⟨⟨j, j1, j2, j3, j4⟩, e'⟩
        · exact Or.inl (by rw [e'])
        · exact Or.inr ⟨⟨j, by omega, by omega, j3, j4⟩, by omega⟩
theorem fd_sy {A : fd_A} {wc : Bool} {h x k y : Nat} (hs : A.2.2.2.2.1 h k = A.2.2.2.2.1 k h) (hc : fd_cb A wc h x k y = true) : fd_cb A wc k y h x = true := by
  rw [fd_cb_iff] at hc ⊢
  obtain ⟨h1, h2, h3⟩ := hc
  exact ⟨fun e => h1 e.symm, fun e e' => h2 (hs.trans e) e'.symm, fun e => ⟨(h3 e).2, (h3 e).1⟩⟩
/-- a lodging, seen from every side -/
def fd_Vs (A : fd_A) (wc : Bool) (a : Nat → Nat) : Prop := ∀ h, h < A.1 → a h < A.2.1 ∧ ∀ k, k < A.1 → k ≠ h → fd_cb A wc h (a h) k (a k) = true
def fd_By (A : fd_A) : Prop := ∀ h k, h < A.1 → k < A.1 → A.2.2.2.2.1 h k = A.2.2.2.2.1 k h
theorem fd_Vs_iff {A : fd_A} {wc : Bool} {a : Nat → Nat} (hs : fd_By A) : fd_Vs A wc a ↔ fd_V A wc a := by
  refine ⟨fun h i hi => ⟨(h i hi).1, fun k hk => (h i hi).2 k (by omega) (by omega)⟩, fun h i hi => ⟨(h i hi).1, fun k hk hne => ?_⟩⟩
  rcases Nat.lt_or_ge k i with g | g
  · exact (h i hi).2 k g
  · exact fd_sy (hs k i hk hi) ((h k hk).2 i (by omega))
/-- those that keep the rooms of all that are not in T -/
def fd_Cp (A : fd_A) (wc : Bool) (T : Nat) (c a : Nat → Nat) : Prop := fd_Vs A wc a ∧ ∀ h, h < A.1 → T.testBit h = false → a h = c h
/-- the rooms of those that are not in T stand together -/
def fd_Ok (A : fd_A) (wc : Bool) (T : Nat) (c : Nat → Nat) : Prop := ∀ h, h < A.1 → T.testBit h = false → c h < A.2.1 ∧ ∀ k, k < A.1 → T.testBit k = false → k ≠ h → fd_cb A wc h (c h) k (c k) = true
/-- room s is open to k -/
def fd_op (A : fd_A) (wc : Bool) (T : Nat) (c : Nat → Nat) (k s : Nat) : Prop := s < A.2.1 ∧ ∀ h, h < A.1 → T.testBit h = false → fd_cb A wc k s h (c h) = true
def fd_rm (T h : Nat) : Nat := T &&& (T ^^^ 2 ^ h)
theorem fd_rm_b {T h k : Nat} : (fd_rm T h).testBit k = (T.testBit k && decide (k ≠ h)) := by
  unfold fd_rm
  rw [Nat.testBit_and, Nat.testBit_xor, Nat.testBit_two_pow]
  by_cases e : k = h
  · subst e; simp
  · have : decide (h = k) = false := decide_eq_false (fun z => e z.symm)
    rw [this, decide_eq_true e]
    cases T.testBit k <;> rfl
theorem fd_rm_f {T h k : Nat} : (fd_rm T h).testBit k = false ↔ T.testBit k = false ∨ k = h := by
  rw [fd_rm_b]
  by_cases e : k = h
  · simp [e]
  · simp [e]
theorem fd_Cp.op {A : fd_A} {wc : Bool} {T : Nat} {c a : Nat → Nat} (h : fd_Cp A wc T c a) {k : Nat} (hk : k < A.1) (hT : T.testBit k = true) : fd_op A wc T c k (a k) := by
  refine ⟨(h.1 k hk).1, fun i hi ht => ?_⟩
  rw [← h.2 i hi ht]
  exact (h.1 k hk).2 i hi (fun e => by rw [e, hT] at ht; exact absurd ht (by decide))
theorem fd_Cp.rm {A : fd_A} {wc : Bool} {T h s : Nat} {c a : Nat → Nat} (hh : h < A.1) (hT : T.testBit h = true) : fd_Cp A wc (fd_rm T h) (fd_u c h s) a ↔ fd_Cp A wc T c a ∧ a h = s := by
  constructor
  · rintro ⟨h1, h2⟩
    refine ⟨⟨h1, fun k hk ht => ?_⟩, ?_⟩
    · have hne : k ≠ h := fun e => by rw [e, hT] at ht; exact absurd ht (by decide)
      rw [h2 k hk (fd_rm_f.mpr (Or.inl ht)), fd_u_n hne]
    · rw [h2 h hh (fd_rm_f.mpr (Or.inr rfl)), fd_u_s]
  · rintro ⟨⟨h1, h2⟩, h3⟩
    refine ⟨h1, fun k hk ht => ?_⟩
    by_cases e : k = h
    · rw [e, fd_u_s, h3]
    · rw [fd_u_n e]
      rcases fd_rm_f.mp ht with g | g
      · exact h2 k hk g
      · exact absurd g e
theorem fd_Ok.rm {A : fd_A} {wc : Bool} {T h s : Nat} {c : Nat → Nat} (hy : fd_By A) (hh : h < A.1) (ho : fd_Ok A wc T c) (hs : fd_op A wc T c h s) : fd_Ok A wc (fd_rm T h) (fd_u c h s) := by
  intro i hi ht
  by_cases e : i = h
  · subst e
    rw [fd_u_s]
    refine ⟨hs.1, fun k hk hk' hne => ?_⟩
    rw [fd_u_n hne]
    rcases fd_rm_f.mp hk' with g | g
    · exact hs.2 k hk g
    · exact absurd g hne
  · have hti : T.testBit i = false := by
      rcases fd_rm_f.mp ht with g | g
      · exact g
      · exact absurd g e
    rw [fd_u_n e]
    refine ⟨(ho i hi hti).1, fun k hk hk' hne => ?_⟩
    by_cases e' : k = h
    · subst e'
      rw [fd_u_s]
      exact fd_sy (hy k i hk hi) (hs.2 i hi hti)
    · rw [fd_u_n e']
      rcases fd_rm_f.mp hk' with g | g
      · exact (ho i hi hti).2 k hk g hne
      · exact absurd g e'
/-- what a room gives, its twins give too -/
def fd_tn (A : fd_A) (wc : Bool) (s t : Nat) : Prop := t < A.2.1 ∧ A.2.2.2.2.2.1 t = A.2.2.2.2.2.1 s ∧ (wc = true → A.2.2.2.2.2.2.1 t = A.2.2.2.2.2.2.1 s) ∧ ∀ h, h < A.1 → A.2.2.1 h * A.2.2.2.2.2.2.2 t = A.2.2.1 h * A.2.2.2.2.2.2.2 s
theorem fd_Cp.tn {A : fd_A} {wc : Bool} {T h s : Nat} {c a : Nat → Nat} (hh : h < A.1) (hT : T.testBit h = true) (hs : fd_op A wc T c h s) (ha : fd_Cp A wc T c a) (ht : fd_tn A wc s (a h)) : ∃ a', fd_Cp A wc (fd_rm T h) (fd_u c h s) a' ∧ fd_S A a' = fd_S A a := by
  obtain ⟨t1, t2, t3, t4⟩ := ht
  refine ⟨fun k => fd_sw s (a h) (a k), ?_, ?_⟩
  · rw [fd_Cp.rm hh hT]
    refine ⟨⟨fun k hk => ⟨?_, fun i hi hne => ?_⟩, fun k hk hk' => ?_⟩, fd_sw_t⟩
    · show fd_sw s (a h) (a k) < A.2.1
      unfold fd_sw
      split
      · exact t1
      · split
        · exact hs.1
        · exact (ha.1 k hk).1
    · have := (ha.1 k hk).2 i hi hne
      rw [fd_cb_iff] at this ⊢
      obtain ⟨a1, a2, a3⟩ := this
      refine ⟨fun e => a1 (fd_sw_inj e), fun e => ?_, fun e => ?_⟩
      · rw [fd_sw_f t2, fd_sw_f t2]; exact a2 e
      · rw [fd_sw_f (t3 e), fd_sw_f (t3 e)]; exact a3 e
    · have hne : k ≠ h := fun e => by rw [e, hT] at hk'; exact absurd hk' (by decide)
      have e := ha.2 k hk hk'
      have h1 := (fd_cb_iff.mp (hs.2 k hk hk')).1
      have h2 := (fd_cb_iff.mp ((ha.1 k hk).2 h hh (fun z => hne z.symm))).1
      show fd_sw s (a h) (a k) = c k
      rw [fd_sw_n (by rw [e]; exact fun z => h1 z.symm) h2, e]
  · exact fd_su_cg A.1 (fun i hi => fd_sw_f (f := fun x => A.2.2.1 i * A.2.2.2.2.2.2.2 x) (t4 i hi))
