theorem fd_an (v u : Nat) : nI v &&& nI u = nI (v &&& u) := by
  apply Int32.toBitVec_inj.mp
  apply BitVec.eq_of_getLsbD_eq
  intro i hi
  rw [Int32.toBitVec_and, BitVec.getLsbD_and, fb_nv, fb_nv, fb_nv, Nat.testBit_and, decide_eq_true hi]
  simp
theorem fd_or (v u : Nat) : nI v ||| nI u = nI (v ||| u) := by
  apply Int32.toBitVec_inj.mp
  apply BitVec.eq_of_getLsbD_eq
  intro i hi
  rw [Int32.toBitVec_or, BitVec.getLsbD_or, fb_nv, fb_nv, fb_nv, Nat.testBit_or, decide_eq_true hi]
  simp
theorem fd_m1 : (-1 : Int32).toBitVec = BitVec.allOnes 32 := by decide
theorem fd_no (v u : Nat) : nI v &&& (nI u ^^^ (-1 : Int32)) = nI (v &&& (v ^^^ u)) := by
  apply Int32.toBitVec_inj.mp
  apply BitVec.eq_of_getLsbD_eq
  intro i hi
  rw [Int32.toBitVec_and, Int32.toBitVec_xor, fd_m1, BitVec.getLsbD_and, BitVec.getLsbD_xor, BitVec.getLsbD_allOnes, fb_nv, fb_nv, fb_nv, Nat.testBit_and, Nat.testBit_xor, decide_eq_true hi]
  cases v.testBit i <;> cases u.testBit i <;> rfl
/-! lodgings: what is to be found, and the reference's search -/
/-- households, rooms; of a household its mouths, its rank, its bars; of a room its house, its worth, its walk -/
abbrev fd_A : Type := Nat × Nat × (Nat → Nat) × (Nat → Nat) × (Nat → Nat → Bool) × (Nat → Nat) × (Nat → Nat) × (Nat → Nat)
/-- room x for household h beside room y for household k -/
def fd_cb (A : fd_A) (rk : Bool) (h x k y : Nat) : Bool := decide (x ≠ y) && (!A.2.2.2.2.1 h k || decide (A.2.2.2.2.2.1 x ≠ A.2.2.2.2.2.1 y)) && (!rk || (decide (A.2.2.2.1 h < A.2.2.2.1 k → A.2.2.2.2.2.2.1 x ≤ A.2.2.2.2.2.2.1 y) && decide (A.2.2.2.1 k < A.2.2.2.1 h → A.2.2.2.2.2.2.1 y ≤ A.2.2.2.2.2.2.1 x)))
theorem fd_cb_iff {A : fd_A} {rk : Bool} {h x k y : Nat} : fd_cb A rk h x k y = true ↔ x ≠ y ∧ (A.2.2.2.2.1 h k = true → A.2.2.2.2.2.1 x ≠ A.2.2.2.2.2.1 y) ∧ (rk = true → (A.2.2.2.1 h < A.2.2.2.1 k → A.2.2.2.2.2.2.1 x ≤ A.2.2.2.2.2.2.1 y) ∧ (A.2.2.2.1 k < A.2.2.2.1 h → A.2.2.2.2.2.2.1 y ≤ A.2.2.2.2.2.2.1 x)) := by
  unfold fd_cb
  cases A.2.2.2.2.1 h k <;> cases rk <;> simp <;> omega
def fd_su (f : Nat → Nat) : Nat → Nat
  | 0 => 0
  | n + 1 => fd_su f n + f n
theorem fd_su_cg {f g : Nat → Nat} : ∀ n : Nat, (∀ i, i < n → f i = g i) → fd_su f n = fd_su g n
  | 0, _ => rfl
  | n + 1, h => by
    show fd_su f n + f n = fd_su g n + g n
    rw [fd_su_cg n (fun i hi => h i (by omega)), h n (by omega)]
theorem fd_su_le {f g : Nat → Nat} : ∀ n : Nat, (∀ i, i < n → f i ≤ g i) → fd_su f n ≤ fd_su g n
  | 0, _ => Nat.le_refl _
  | n + 1, h => by
    have h1 := fd_su_le n (fun i hi => h i (by omega))
    have h2 := h n (by omega)
    show fd_su f n + f n ≤ fd_su g n + g n
    omega
theorem fd_su_b {f : Nat → Nat} {B : Nat} : ∀ n : Nat, (∀ i, i < n → f i ≤ B) → fd_su f n ≤ n * B
  | 0, _ => Nat.zero_le _
  | n + 1, h => by
    have h1 := fd_su_b n (fun i hi => h i (by omega))
    have h2 := h n (by omega)
    show fd_su f n + f n ≤ (n + 1) * B
    rw [Nat.succ_mul]
    omega
/-- a lodging, and its sum -/
def fd_V (A : fd_A) (rk : Bool) (a : Nat → Nat) : Prop := ∀ h, h < A.1 → a h < A.2.1 ∧ ∀ k, k < h → fd_cb A rk h (a h) k (a k) = true
def fd_f (A : fd_A) (a : Nat → Nat) (h : Nat) : Nat := A.2.2.1 h * A.2.2.2.2.2.2.2 (a h)
def fd_S (A : fd_A) (a : Nat → Nat) : Nat := fd_su (fd_f A a) A.1
/-- a has the lesser rooms -/
def fd_lx (n : Nat) (a a' : Nat → Nat) : Prop := ∀ j, j < n → (∀ i, i < j → a' i = a i) → a j ≤ a' j
/-- those that go on from the rooms c of the first h -/
def fd_X (A : fd_A) (rk : Bool) (h : Nat) (c a : Nat → Nat) : Prop := fd_V A rk a ∧ ∀ k, k < h → a k = c k
def fd_al (f : Nat → Bool) : Nat → Bool
  | 0 => true
  | k + 1 => fd_al f k && f k
theorem fd_al_iff {f : Nat → Bool} : ∀ k : Nat, fd_al f k = true ↔ ∀ j, j < k → f j = true
  | 0 => ⟨fun _ j hj => absurd hj (Nat.not_lt_zero _), fun _ => rfl⟩
  | k + 1 => by
    show (fd_al f k && f k) = true ↔ _
    rw [Bool.and_eq_true, fd_al_iff k]
    constructor
    · rintro ⟨h1, h2⟩ j hj
      by_cases e : j = k
      · rw [e]; exact h2
      · exact h1 j (by omega)
    · intro h
      exact ⟨fun j hj => h j (by omega), h k (by omega)⟩
theorem fd_t : ∀ v, v < 1024 → ∀ s, s < 10 → decide (((nI v >>> (nI s &&& 31)) &&& (1 : Int32)) = 1) = v.testBit s ∧ decide (((nI v >>> (nI s &&& 31)) &&& (1 : Int32)) = 0) = !v.testBit s := by decide +kernel
theorem fd_t1 {v s : Nat} (hv : v < 1024) (hs : s < 10) : (((nI v >>> (nI s &&& 31)) &&& (1 : Int32)) = 1) ↔ v.testBit s = true := by
  rw [← (fd_t v hv s hs).1, decide_eq_true_iff]
theorem fd_t0 {v s : Nat} (hv : v < 1024) (hs : s < 10) : (((nI v >>> (nI s &&& 31)) &&& (1 : Int32)) = 0) ↔ v.testBit s = false := by
  have := (fd_t v hv s hs).2
  cases h : v.testBit s with
  | true => rw [h] at this; exact ⟨fun z => absurd z (of_decide_eq_false this), fun z => absurd z (by decide)⟩
  | false => rw [h] at this; exact ⟨fun _ => rfl, fun _ => of_decide_eq_true this⟩
/-- the reference's rows -/
def fd_Z (A : fd_A) (p : Nat) (m4 : Int32) (s10 s1 s2 s4 s11 s12 s13 : Nat → Int32) : Prop := (A.1 ≤ 8 ∧ A.2.1 ≤ 10 ∧ p < 9 ∧ m4 = nI A.1 ∧ s10 p = nI A.2.1) ∧ (∀ h, h < A.1 → (s1 h = nI (A.2.2.2.1 h) ∧ A.2.2.2.1 h ≤ 9) ∧ (s2 h = nI (A.2.2.1 h) ∧ A.2.2.1 h ≤ 99) ∧ ∃ v, v < 256 ∧ s4 h = nI v ∧ ∀ k, k < 8 → v.testBit k = A.2.2.2.2.1 h k) ∧ ∀ r, r < A.2.1 → (s12 (10 * p + r) = nI (A.2.2.2.2.2.1 r) ∧ A.2.2.2.2.2.1 r ≤ 3) ∧ (s11 (10 * p + r) = nI (A.2.2.2.2.2.2.1 r) ∧ A.2.2.2.2.2.2.1 r ≤ 9) ∧ s13 (10 * p + r) = nI (A.2.2.2.2.2.2.2 r) ∧ A.2.2.2.2.2.2.2 r ≤ 99
abbrev fd_Zm (A : fd_A) (p : Nat) (MM : Nat → Nat → Int32) : Prop := fd_Z A p (MM 0 4) (MM 10) (MM 1) (MM 2) (MM 4) (MM 11) (MM 12) (MM 13)
theorem fl_184 {d : Nat} {al : Nat × Nat} {N : Nat → Nat → Int64} {p h x : Nat} {rk : Bool} {A : fd_A} {c : Nat → Nat} {M : Nat → Nat → Int32} (hz : fd_Zm A p M) (hh : h < A.1) (hx : x < A.2.1) (hc : ∀ k, k < h → M 34 k = nI (c k) ∧ c k < A.2.1) : ∀ (m k : Nat) (v7 v8 : Value), k + m = h → ai_run d 184 1 [.ref 0, .int (nI p), .int (nI h), .int (nI x), .int (fn_bi rk), .int (fn_bi (fd_al (fun j => fd_cb A rk h x j (c j)) k)), .int (nI k), v7, v8] [] (hM al M N) = some (.inl (some (.int (fn_bi (fd_al (fun j => fd_cb A rk h x j (c j)) h)))), hM al M N)
  | 0, k, v7, v8, hk => by
    have : k = h := by omega
    subst this
    rw [bq_184_1, if_pos Int32.le_rfl, bq_184_11]
    cases fd_al (fun j => fd_cb A rk k x j (c j)) k with
    | true => rw [if_pos (show fn_bi true = 0 ∨ fn_bi true = 1 from Or.inr rfl)]
    | false => rw [if_pos (show fn_bi false = 0 ∨ fn_bi false = 1 from Or.inl rfl)]
  | m + 1, k, v7, v8, hk => by
    obtain ⟨⟨z1, z2, z3, z4, z5⟩, zh, zr⟩ := id hz
    obtain ⟨c1, c2⟩ := hc k (by omega)
    obtain ⟨⟨h1, h1'⟩, -, v, hv, h4, h4'⟩ := zh h hh
    obtain ⟨⟨k1, k1'⟩, -, -⟩ := zh k (by omega)
    obtain ⟨⟨x1, x1'⟩, ⟨x2, x2'⟩, -⟩ := zr x hx
    obtain ⟨⟨y1, y1'⟩, ⟨y2, y2'⟩, -⟩ := zr (c k) c2
    have i8 : ai_in (nI k) 8 = true := by rw [fi_in (by omega)]; exact decide_eq_true (by omega)
    have i8h : ai_in (nI h) 8 = true := by rw [fi_in (by omega)]; exact decide_eq_true (by omega)
    have i9 : ai_in (nI (10 * p + x)) 90 = true := by rw [fi_in (by omega)]; exact decide_eq_true (by omega)
    have i9' : ai_in (nI (10 * p + c k)) 90 = true := by rw [fi_in (by omega)]; exact decide_eq_true (by omega)
    have ih := fl_184 (d := d) (al := al) (N := N) (rk := rk) hz hh hx hc m (k + 1) ai_un ai_un (by omega)
    -- what is left to show: the flag
    have fin : ∀ (b : Bool) (v7 v8 : Value), b = fd_al (fun j => fd_cb A rk h x j (c j)) (k + 1) → ai_run d 184 10 [.ref 0, .int (nI p), .int (nI h), .int (nI x), .int (fn_bi rk), .int (fn_bi b), .int (nI k), v7, v8] [] (hM al M N) = some (.inl (some (.int (fn_bi (fd_al (fun j => fd_cb A rk h x j (c j)) h)))), hM al M N) := fun b v7 v8 hb => by
      rw [bq_184_10, nI_1, hb, ih]
    have eal : fd_al (fun j => fd_cb A rk h x j (c j)) (k + 1) = (fd_al (fun j => fd_cb A rk h x j (c j)) k && fd_cb A rk h x k (c k)) := rfl
    obtain ⟨b0, hb0⟩ : ∃ b0, b0 = fd_al (fun j => fd_cb A rk h x j (c j)) k := ⟨_, rfl⟩
    rw [← hb0] at eal ⊢
    obtain ⟨b1, hb1⟩ : ∃ b1 : Bool, b1 = (b0 && (decide (x ≠ c k) && (!A.2.2.2.2.1 h k || decide (A.2.2.2.2.2.1 x ≠ A.2.2.2.2.2.1 (c k))))) := ⟨_, rfl⟩
    have s4 : ai_run d 184 1 [.ref 0, .int (nI p), .int (nI h), .int (nI x), .int (fn_bi rk), .int (fn_bi b0), .int (nI k), v7, v8] [] (hM al M N) = ai_run d 184 4 [.ref 0, .int (nI p), .int (nI h), .int (nI x), .int (fn_bi rk), ai_un, .int (nI k), .int (nI (10 * p + c k)), .int (nI (10 * p + x))] [.int (fn_bi b1)] (hM al M N) := by
      rw [bq_184_1, if_neg (nI_ge (by omega) (by omega)), i8, cond_true, cond_true, nI_clamp (by omega), c1, fi_r.2, fi_r.2]
      cases b0 with
      | false => rw [if_pos (show fn_bi false = 0 from rfl), bq_184_3, hb1]; rfl
      | true =>
        rw [if_neg (show ¬ fn_bi true = 0 by decide)]
        by_cases e : c k = x
        · rw [if_pos (by rw [e]), bq_184_3, hb1, show decide (x ≠ c k) = false from decide_eq_false (fun z => z e.symm)]; rfl
        · rw [if_neg (fun z => e ((nI_eq (by omega) (by omega)).mp z)), i8h, cond_true, nI_clamp (by omega), h4]
          have e' : decide (x ≠ c k) = true := decide_eq_true (fun z => e z.symm)
          cases hB : A.2.2.2.2.1 h k with
          | false =>
            have ht : v.testBit k = false := (h4' k (by omega)).trans hB
            rw [if_pos ((fd_t0 (by omega) (by omega)).mpr ht), bq_184_2, hb1, e', hB]; rfl
          | true =>
            have ht : v.testBit k = true := (h4' k (by omega)).trans hB
            rw [if_neg (fun z => by have := (fd_t0 (by omega) (by omega)).mp z; rw [ht] at this; exact absurd this (by decide)), i9', cond_true, i9, cond_true, nI_clamp (by omega), nI_clamp (by omega), y1, x1]
            by_cases ee : A.2.2.2.2.2.1 (c k) = A.2.2.2.2.2.1 x
            · rw [if_pos (by rw [ee]), bq_184_3, hb1, e', hB, show decide (A.2.2.2.2.2.1 x ≠ A.2.2.2.2.2.1 (c k)) = false from decide_eq_false (fun z => z ee.symm)]; rfl
            · rw [if_neg (fun z => ee ((nI_eq (by omega) (by omega)).mp z)), bq_184_2, hb1, e', hB, show decide (A.2.2.2.2.2.1 x ≠ A.2.2.2.2.2.1 (c k)) = true from decide_eq_true (fun z => ee z.symm)]; rfl
    rw [s4, bq_184_4]
    have ecb : (b0 && fd_cb A rk h x k (c k)) = (b1 && (!rk || (decide (A.2.2.2.1 h < A.2.2.2.1 k → A.2.2.2.2.2.2.1 x ≤ A.2.2.2.2.2.2.1 (c k)) && decide (A.2.2.2.1 k < A.2.2.2.1 h → A.2.2.2.2.2.2.1 (c k) ≤ A.2.2.2.2.2.2.1 x)))) := by
      rw [hb1]
      unfold fd_cb
      simp only [Bool.and_assoc]
    rw [ecb] at eal
    cases rk with
    | false =>
      rw [if_pos (show fn_bi false = 0 from rfl)]
      exact fin b1 _ _ (by rw [eal]; simp)
    | true =>
      rw [if_neg (show ¬ fn_bi true = 0 by decide), i8, cond_true, i8h, cond_true, nI_clamp (by omega), nI_clamp (by omega), k1, h1]
      simp only [Bool.not_true, Bool.false_or] at eal
      by_cases e1 : A.2.2.2.1 k = A.2.2.2.1 h
      · rw [if_pos (by rw [e1])]
        refine fin b1 _ _ ?_
        rw [eal, decide_eq_true (show A.2.2.2.1 h < A.2.2.2.1 k → A.2.2.2.2.2.2.1 x ≤ A.2.2.2.2.2.2.1 (c k) from fun z => absurd z (by omega)), decide_eq_true (show A.2.2.2.1 k < A.2.2.2.1 h → A.2.2.2.2.2.2.1 (c k) ≤ A.2.2.2.2.2.2.1 x from fun z => absurd z (by omega)), Bool.and_true, Bool.and_true]
      · rw [if_neg (fun z => e1 ((nI_eq (by omega) (by omega)).mp z)), bq_184_5]
        cases b1 with
        | false =>
          rw [if_pos (show fn_bi false = 0 from rfl), bq_184_8, bq_184_9]
          exact fin false _ _ (by rw [eal]; rfl)
        | true =>
          rw [Bool.true_and] at eal
          rw [if_neg (show ¬ fn_bi true = 0 by decide), i8, cond_true, i8h, cond_true, nI_clamp (by omega), nI_clamp (by omega), k1, h1]
          by_cases e2 : A.2.2.2.1 k ≤ A.2.2.2.1 h
          · rw [if_pos (nI_le e2 (by omega)), bq_184_6, i9', cond_true, i9, cond_true, nI_clamp (by omega), nI_clamp (by omega), y2, x2]
            rw [decide_eq_true (show A.2.2.2.1 h < A.2.2.2.1 k → A.2.2.2.2.2.2.1 x ≤ A.2.2.2.2.2.2.1 (c k) from fun z => absurd z (by omega)), Bool.true_and] at eal
            by_cases e3 : A.2.2.2.2.2.2.1 x < A.2.2.2.2.2.2.1 (c k)
            · rw [if_pos (nI_lt e3 (by omega)), bq_184_8, bq_184_9]
              exact fin false _ _ (by rw [eal, decide_eq_false (fun z => absurd (z (by omega)) (by omega))])
            · rw [if_neg (nI_nlt (by omega) (by omega)), bq_184_7, bq_184_9]
              exact fin true _ _ (by rw [eal, decide_eq_true (fun _ => by omega)])
          · rw [if_neg (nI_ge (by omega) (by omega)), i9, cond_true, i9', cond_true, nI_clamp (by omega), nI_clamp (by omega), y2, x2]
            rw [decide_eq_true (show A.2.2.2.1 k < A.2.2.2.1 h → A.2.2.2.2.2.2.1 (c k) ≤ A.2.2.2.2.2.2.1 x from fun z => absurd z (by omega)), Bool.and_true] at eal
            by_cases e3 : A.2.2.2.2.2.2.1 (c k) < A.2.2.2.2.2.2.1 x
            · rw [if_pos (nI_lt e3 (by omega)), bq_184_8, bq_184_9]
              exact fin false _ _ (by rw [eal, decide_eq_false (fun z => absurd (z (by omega)) (by omega))])
            · rw [if_neg (nI_nlt (by omega) (by omega)), bq_184_7, bq_184_9]
              exact fin true _ _ (by rw [eal, decide_eq_true (fun _ => by omega)])
theorem fw_184 {d : Nat} {al : Nat × Nat} {N : Nat → Nat → Int64} {p h x : Nat} {rk : Bool} {A : fd_A} {c : Nat → Nat} {M : Nat → Nat → Int32} (hz : fd_Zm A p M) (hh : h < A.1) (hx : x < A.2.1) (hc : ∀ k, k < h → M 34 k = nI (c k) ∧ c k < A.2.1) {v5 v6 v7 v8 : Value} : ai_run d 184 0 [.ref 0, .int (nI p), .int (nI h), .int (nI x), .int (fn_bi rk), v5, v6, v7, v8] [] (hM al M N) = some (.inl (some (.int (fn_bi (fd_al (fun j => fd_cb A rk h x j (c j)) h)))), hM al M N) := by
  rw [bq_184_0]
  exact fl_184 hz hh hx hc h 0 _ _ (by omega)
