/-! lodgings: the class's search -/
theorem fd_bs.cg {x : Int32} {P Q : Nat → Prop} (h : fd_bs x P) (e : ∀ t, t < 10 → (P t ↔ Q t)) : fd_bs x Q := by
  obtain ⟨v, v1, v2, v3⟩ := h
  exact ⟨v, v1, v2, fun t ht => (v3 t ht).trans (e t ht)⟩
theorem fd_bs.an {x y : Int32} {P Q : Nat → Prop} (h : fd_bs x P) (h' : fd_bs y Q) : fd_bs (x &&& y) (fun t => P t ∧ Q t) := by
  obtain ⟨v, v1, v2, v3⟩ := h
  obtain ⟨w, w1, w2, w3⟩ := h'
  refine ⟨v &&& w, Nat.lt_of_le_of_lt Nat.and_le_left v1, by rw [v2, w2, fd_an], fun t ht => ?_⟩
  rw [Nat.testBit_and, Bool.and_eq_true, v3 t ht, w3 t ht]
theorem fd_bs.no {x y : Int32} {P Q : Nat → Prop} (h : fd_bs x P) (h' : fd_bs y Q) : fd_bs (x &&& (y ^^^ (-1 : Int32))) (fun t => P t ∧ ¬ Q t) := by
  obtain ⟨v, v1, v2, v3⟩ := h
  obtain ⟨w, w1, w2, w3⟩ := h'
  refine ⟨v &&& (v ^^^ w), Nat.lt_of_le_of_lt Nat.and_le_left v1, by rw [v2, w2, fd_no], fun t ht => ?_⟩
  show _ ↔ P t ∧ ¬ Q t
  rw [← v3 t ht, ← w3 t ht, Nat.testBit_and, Nat.testBit_xor]
  cases v.testBit t <;> cases w.testBit t <;> decide
theorem fd_bs_1 {s : Nat} (hs : s < 10) : fd_bs ((1 : Int32) <<< (nI s &&& 31)) (fun t => t = s) :=
  ⟨2 ^ s, Nat.pow_lt_pow_right (by omega) hs, fd_p2 s hs, fun t _ => by rw [Nat.testBit_two_pow, decide_eq_true_iff]; exact ⟨fun e => e.symm, fun e => e.symm⟩⟩
theorem fd_op.rm {A : fd_A} {wc : Bool} {T h s k t : Nat} {c : Nat → Nat} (hh : h < A.1) (hT : T.testBit h = true) : fd_op A wc (fd_rm T h) (fd_u c h s) k t ↔ fd_op A wc T c k t ∧ fd_cb A wc k t h s = true := by
  constructor
  · rintro ⟨h1, h2⟩
    refine ⟨⟨h1, fun i hi ht => ?_⟩, ?_⟩
    · have := h2 i hi (fd_rm_f.mpr (Or.inl ht))
      rw [fd_u_n (fun e => by rw [e, hT] at ht; exact absurd ht (by decide))] at this
      exact this
    · have := h2 h hh (fd_rm_f.mpr (Or.inr rfl))
      rw [fd_u_s] at this
      exact this
  · rintro ⟨⟨h1, h2⟩, h3⟩
    refine ⟨h1, fun i hi ht => ?_⟩
    by_cases e : i = h
    · rw [e, fd_u_s]; exact h3
    · rw [fd_u_n e]
      rcases fd_rm_f.mp ht with g | g
      · exact h2 i hi g
      · exact absurd g e
theorem fl_28 {d : Nat} {al : Nat × Nat} {kl T h s dep : Nat} {A : fd_A} {wc : Bool} {o c : Nat → Nat} (hT : T < 256) (hdep : dep < 8) (hh : h < A.1) (hTh : T.testBit h = true) (hs : s < A.2.1) : ∀ (m k : Nat) (M : Nat → Nat → Int32) (v1 v7 : Value), k + m = A.1 → fd_T A wc o M → fd_O A wc T dep c (M 40) → (∀ j, j < k → (fd_rm T h).testBit j = true → fd_bs (M 40 (8 * (dep + 1) + j)) (fd_op A wc (fd_rm T h) (fd_u c h s) j)) → ∃ M', ai_run d 28 1 [.ref 33, v1, .int (nI h), .int (nI s), .int (nI (fd_rm T h)), .int (nI (8 * dep)), .int (nI k), v7] [] (hC al kl M) = some (.inl none, hC al kl M') ∧ (∀ a, a ≠ 40 → M' a = M a) ∧ (∀ j, j < 8 * (dep + 1) → M' 40 j = M 40 j) ∧ fd_O A wc (fd_rm T h) (dep + 1) (fd_u c h s) (M' 40)
  | 0, k, M, v1, v7, hk, hz, hO, hd => by
    have e : k = A.1 := by omega
    refine ⟨M, ?_, fun _ _ => rfl, fun _ _ => rfl, fun j hj => hd j (by omega)⟩
    rw [bq_28_1, hz.1.2.2.1, e, if_pos Int32.le_rfl, bq_28_6]
  | m + 1, k, M, v1, v7, hk, hz, hO, hd => by
    obtain ⟨⟨z1, z2, z3, z4, zy, zo⟩, zh, zw, zk, zr⟩ := id hz
    have hT' : fd_rm T h < 1024 := Nat.lt_of_le_of_lt Nat.and_le_left (by omega)
    have hkn : k < A.1 := by omega
    cases ht : (fd_rm T h).testBit k with
    | false =>
      obtain ⟨M', p1, p2, p3, p4⟩ := fl_28 (d := d) (al := al) (kl := kl) hT hdep hh hTh hs m (k + 1) M ai_un ai_un (by omega) hz hO (fun j hj hj' => by
        by_cases e : j = k
        · rw [e, ht] at hj'; exact absurd hj' (by decide)
        · exact hd j (by omega) hj')
      refine ⟨M', ?_, p2, p3, p4⟩
      rw [bq_28_1, z3, if_neg (nI_ge hkn (by omega)), if_neg (fun z => by rw [fd_t1 hT' (by omega), ht] at z; exact absurd z (by decide)), bq_28_5, nI_1, p1]
    | true =>
      have htk : T.testBit k = true := by rw [fd_rm_b] at ht; exact (Bool.and_eq_true _ _ ▸ ht).1
      have hne : k ≠ h := fun e => by rw [fd_rm_b, e] at ht; simp at ht
      have hopn := hO k hkn htk
      obtain ⟨v, v1', v2', v3'⟩ := (zh h hh).2.2.2
      obtain ⟨-, r36, r37, r38, -⟩ := zr s hs
      have i72 : ai_in (nI (8 * dep + k)) 72 = true := by rw [fi_in (by omega)]; exact decide_eq_true (by omega)
      have i72' : ai_in (nI (8 * dep + 8 + k)) 72 = true := by rw [fi_in (by omega)]; exact decide_eq_true (by omega)
      have i8h : ai_in (nI h) 8 = true := by rw [fi_in (by omega)]; exact decide_eq_true (by omega)
      have i8k : ai_in (nI k) 8 = true := by rw [fi_in (by omega)]; exact decide_eq_true (by omega)
      have i10 : ai_in (nI s) 10 = true := by rw [fi_in (by omega)]; exact decide_eq_true (by omega)
      have hBy : A.2.2.2.2.1 h k = A.2.2.2.2.1 k h := zy h k hh hkn
      -- the write, and on
      have fin : ∀ (x : Int32), fd_bs x (fun t => fd_op A wc T c k t ∧ fd_cb A wc k t h s = true) → ∃ M', ai_run d 28 4 [.ref 33, ai_un, .int (nI h), .int (nI s), .int (nI (fd_rm T h)), .int (nI (8 * dep)), .int (nI k), .int x] [] (hC al kl M) = some (.inl none, hC al kl M') ∧ (∀ a, a ≠ 40 → M' a = M a) ∧ (∀ j, j < 8 * (dep + 1) → M' 40 j = M 40 j) ∧ fd_O A wc (fd_rm T h) (dep + 1) (fd_u c h s) (M' 40) := fun x hx => by
        have hrow : ∀ j, j ≠ 8 * dep + 8 + k → ai_up M 40 (8 * dep + 8 + k) x 40 j = M 40 j := fun j hj => fu_ne hj
        obtain ⟨M', p1, p2, p3, p4⟩ := fl_28 (d := d) (al := al) (kl := kl) hT hdep hh hTh hs m (k + 1) (ai_up M 40 (8 * dep + 8 + k) x) ai_un ai_un (by omega) hz (fun j hj hj' => by
          rw [hrow _ (by omega)]; exact hO j hj hj') (fun j hj hj' => by
          by_cases e : j = k
          · rw [e, show 8 * (dep + 1) + k = 8 * dep + 8 + k by omega, fu_at]
            exact hx.cg (fun t _ => (fd_op.rm hh hTh).symm)
          · rw [hrow _ (by omega)]; exact hd j (by omega) hj')
        refine ⟨M', ?_, fun a ha => by rw [p2 a ha, fu_row ha], fun j hj => by rw [p3 j hj, hrow _ (by omega)], p4⟩
        rw [bq_28_4, show (8 : Int32) = nI 8 from rfl, nI_add, nI_add, i72', cond_true, nI_clamp (by omega), bq_28_5, nI_1, p1]
      -- the ranks
      have rk : ∀ (x : Int32), fd_bs x (fun t => fd_op A wc T c k t ∧ t ≠ s ∧ (A.2.2.2.2.1 k h = true → A.2.2.2.2.2.1 t ≠ A.2.2.2.2.2.1 s)) → ∃ M', ai_run d 28 2 [.ref 33, ai_un, .int (nI h), .int (nI s), .int (nI (fd_rm T h)), .int (nI (8 * dep)), .int (nI k), .int x] [] (hC al kl M) = some (.inl none, hC al kl M') ∧ (∀ a, a ≠ 40 → M' a = M a) ∧ (∀ j, j < 8 * (dep + 1) → M' 40 j = M 40 j) ∧ fd_O A wc (fd_rm T h) (dep + 1) (fd_u c h s) (M' 40) := fun x hx => by
        rw [bq_28_2, i8k, cond_true, i8h, cond_true, nI_clamp (by omega), nI_clamp (by omega), (zh k hkn).1.1, (zh h hh).1.1]
        have k1 := (zh k hkn).1.2
        have k2 := (zh h hh).1.2
        by_cases e1 : A.2.2.2.1 k ≤ A.2.2.2.1 h
        · rw [if_pos (nI_le e1 (by omega)), bq_28_3, i8k, cond_true, i8h, cond_true, nI_clamp (by omega), nI_clamp (by omega), (zh k hkn).1.1, (zh h hh).1.1]
          by_cases e2 : A.2.2.2.1 h ≤ A.2.2.2.1 k
          · rw [if_pos (nI_le e2 (by omega))]
            refine fin x (hx.cg (fun t _ => and_congr_right (fun _ => ?_)))
            rw [fd_cb_iff]
            exact ⟨fun ⟨a, b⟩ => ⟨a, b, fun _ => ⟨fun z => absurd z (by omega), fun z => absurd z (by omega)⟩⟩, fun ⟨a, b, _⟩ => ⟨a, b⟩⟩
          · rw [if_neg (nI_ge (by omega) (by omega)), i10, cond_true, nI_clamp (by omega)]
            refine fin _ ((hx.an r38).cg (fun t _ => ?_))
            rw [fd_cb_iff]
            exact ⟨fun ⟨⟨a, b, c⟩, e, f⟩ => ⟨a, b, c, fun z => ⟨fun _ => f z, fun g => absurd g (by omega)⟩⟩, fun ⟨a, b, c, e⟩ => ⟨⟨a, b, c⟩, a.1, fun z => (e z).1 (by omega)⟩⟩
        · rw [if_neg (nI_ge (by omega) (by omega)), i10, cond_true, nI_clamp (by omega)]
          refine fin _ ((hx.an r37).cg (fun t _ => ?_))
          rw [fd_cb_iff]
          exact ⟨fun ⟨⟨a, b, c⟩, e, f⟩ => ⟨a, b, c, fun z => ⟨fun g => absurd g (by omega), fun _ => f z⟩⟩, fun ⟨a, b, c, e⟩ => ⟨⟨a, b, c⟩, a.1, fun z => (e z).2 (by omega)⟩⟩
      rw [bq_28_1, z3, if_neg (nI_ge hkn (by omega)), if_pos ((fd_t1 hT' (by omega)).mpr ht), nI_add, i72, cond_true, i8h, cond_true, nI_clamp (n := h) (by omega), v2', nI_clamp (n := 8 * dep + k) (by omega)]
      cases hB : A.2.2.2.2.1 h k with
      | true =>
        rw [if_pos ((fd_t1 (by omega) (by omega)).mpr ((v3' k (by omega)).trans hB)), i10, cond_true, nI_clamp (n := s) (by omega)]
        refine rk _ (((hopn.no (fd_bs_1 (by omega))).no r36).cg (fun t _ => ?_))
        rw [← hBy, hB]
        exact ⟨fun ⟨⟨a, b⟩, e⟩ => ⟨a, b, fun _ z => e ⟨a.1, z⟩⟩, fun ⟨a, b, e⟩ => ⟨⟨a, b⟩, fun z => e rfl z.2⟩⟩
      | false =>
        rw [if_neg (fun z => by rw [fd_t1 (by omega) (by omega), v3' k (by omega), hB] at z; exact absurd z (by decide))]
        refine rk _ ((hopn.no (fd_bs_1 (by omega))).cg (fun t _ => ?_))
        rw [← hBy, hB]
        exact ⟨fun ⟨a, b⟩ => ⟨a, b, fun z => absurd z (by decide)⟩, fun ⟨a, b, _⟩ => ⟨a, b⟩⟩
theorem fw_28 {d : Nat} {al : Nat × Nat} {kl T h s dep : Nat} {A : fd_A} {wc : Bool} {o c : Nat → Nat} {M : Nat → Nat → Int32} (hT : T < 256) (hdep : dep < 8) (hh : h < A.1) (hTh : T.testBit h = true) (hs : s < A.2.1) (hz : fd_T A wc o M) (hO : fd_O A wc T dep c (M 40)) (hc : ∀ j, j < A.1 → T.testBit j = false → M 43 j = nI (c j)) : ∃ M', ai_run d 28 0 [.ref 33, .int (nI dep), .int (nI h), .int (nI s), .int (nI (fd_rm T h)), ai_un, ai_un, ai_un] [] (hC al kl M) = some (.inl none, hC al kl M') ∧ (∀ a, a ≠ 40 → a ≠ 43 → M' a = M a) ∧ (∀ j, j < 8 * (dep + 1) → M' 40 j = M 40 j) ∧ (∀ j, j ≠ h → M' 43 j = M 43 j) ∧ (∀ j, j < A.1 → (fd_rm T h).testBit j = false → M' 43 j = nI (fd_u c h s j)) ∧ fd_O A wc (fd_rm T h) (dep + 1) (fd_u c h s) (M' 40) := by
  have hn := hz.1.1
  obtain ⟨M', p1, p2, p3, p4⟩ := fl_28 (d := d) (al := al) (kl := kl) (c := c) hT hdep hh hTh hs A.1 0 (ai_up M 43 h (nI s)) (.int (nI dep)) ai_un (by omega) hz hO (fun j hj => absurd hj (Nat.not_lt_zero _))
  have e43 : ∀ j, M' 43 j = upd (M 43) h (nI s) j := fun j => by rw [p2 43 (by decide)]; rfl
  refine ⟨M', ?_, fun a a1 a2 => by rw [p2 a a1, fu_row a2], p3, fun j hj => by rw [e43, pk_un hj], fun j hj hj' => ?_, p4⟩
  · rw [bq_28_0, fi_in (by omega), decide_eq_true (by omega), cond_true, nI_clamp (by omega), show nI dep * (8 : Int32) = nI (8 * dep) by rw [show (8 : Int32) = nI 8 from rfl, pk_mul, Nat.mul_comm]]
    exact p1
  · rw [e43]
    by_cases e : j = h
    · rw [e, pk_us, fd_u_s]
    · rw [pk_un e, fd_u_n e]
      rcases fd_rm_f.mp hj' with g | g
      · exact hc j hj g
      · exact absurd g e
theorem fl_24 {d : Nat} {al : Nat × Nat} {kl n : Nat} (hn : n ≤ 8) : ∀ (m k : Nat) (M : Nat → Nat → Int32) (v1 : Value), k + m = n → M 4 0 = nI n → (∀ j, j < k → M 44 j = M 43 j) → ∃ M', ai_run d 24 1 [.ref 33, v1, .int (nI k)] [] (hC al kl M) = some (.inl none, hC al kl M') ∧ (∀ a, a ≠ 44 → M' a = M a) ∧ ∀ j, j < n → M' 44 j = M 43 j
  | 0, k, M, v1, hk, h4, hj => by
    have e : k = n := by omega
    refine ⟨M, ?_, fun _ _ => rfl, fun j hj' => hj j (by omega)⟩
    rw [bq_24_1, h4, e, if_pos Int32.le_rfl, bq_24_2]
  | m + 1, k, M, v1, hk, h4, hj => by
    obtain ⟨M', p1, p2, p3⟩ := fl_24 (d := d) (al := al) (kl := kl) hn m (k + 1) (ai_up M 44 k (M 43 k)) ai_un (by omega) h4 (fun j hj' => by
      rw [fu_row (show (43 : Nat) ≠ 44 by decide)]
      by_cases e : j = k
      · rw [e, fu_at]
      · rw [fu_ne e]; exact hj j (by omega))
    refine ⟨M', ?_, fun a ha => by rw [p2 a ha, fu_row ha], p3⟩
    rw [bq_24_1, h4, if_neg (nI_ge (by omega) (by omega)), fi_in (by omega), decide_eq_true (by omega), cond_true, cond_true, nI_clamp (by omega), nI_1, p1]
/-- what a search has done, among those that P picks -/
def fd_R (A : fd_A) (wc : Bool) (en T dep : Nat) (c : Nat → Nat) (P : (Nat → Nat) → Prop) (M M' : Nat → Nat → Int32) (lim lim' : Nat) : Prop := fd_K M M' ∧ M' 33 14 = nI lim' ∧ (∀ j, j < 8 * (dep + 1) → M' 40 j = M 40 j) ∧ (∀ h, h < A.1 → T.testBit h = false → M' 43 h = M 43 h) ∧ ((lim' = lim ∧ M' 44 = M 44) ∨ (lim' < lim ∧ ∃ a, fd_Cp A wc T c a ∧ fd_S A a = lim' ∧ ∀ h, h < A.1 → M' 44 h = nI (a h))) ∧ ∀ a, fd_Cp A wc T c a → P a → lim' ≤ en ∨ lim' ≤ fd_S A a
def fd_ct (n T : Nat) : Nat := fd_su (fun h => if T.testBit h then 1 else 0) n
def fd_Hs (al : Nat × Nat) (kl : Nat) (A : fd_A) (wc : Bool) (o : Nat → Nat) (en D m : Nat) : Prop := ∀ (T dep : Nat) (c : Nat → Nat) (M : Nat → Nat → Int32) (lim : Nat), fd_T A wc o M → M 33 14 = nI lim → lim ≤ 1000001 → M 33 15 = nI en → (∀ k, T.testBit k = true → k < A.1) → fd_ct A.1 T = m → dep + m = A.1 → fd_Ok A wc T c → (∀ h, h < A.1 → T.testBit h = false → M 43 h = nI (c h)) → fd_O A wc T dep c (M 40) → ∃ M' lim', ai_run D 23 0 [.ref 33, .int (nI dep), .int (nI T), .int (nI (fd_pt A T c)), ai_un, ai_un, ai_un, ai_un] [] (hC al kl M) = some (.inl none, hC al kl M') ∧ fd_R A wc en T dep c (fun _ => True) M M' lim lim'
theorem fd_su_ix (r x : Nat) : ∀ n : Nat, fd_su (fun k => if k = r then x else 0) n = if r < n then x else 0
  | 0 => rfl
  | n + 1 => by
    show fd_su (fun k => if k = r then x else 0) n + (if n = r then x else 0) = _
    rw [fd_su_ix r x n]
    by_cases h1 : r < n
    · rw [if_pos h1, if_neg (by omega), if_pos (by omega)]; rfl
    · rw [if_neg h1]
      by_cases h2 : n = r
      · rw [if_pos h2, if_pos (by omega), Nat.zero_add]
      · rw [if_neg h2, if_neg (by omega)]
theorem fd_ct_rm {n T h : Nat} (hh : h < n) (hT : T.testBit h = true) : fd_ct n T = fd_ct n (fd_rm T h) + 1 := by
  have h1 := fd_su_ix h 1 n
  rw [if_pos hh] at h1
  have h2 : fd_su (fun k => if T.testBit k then 1 else 0) n = fd_su (fun k => (if (fd_rm T h).testBit k then 1 else 0) + (if k = h then 1 else 0)) n := fd_su_cg n (fun i hi => by
    rw [fd_rm_b]
    by_cases e : i = h
    · rw [e, hT]; simp
    · simp [e])
  unfold fd_ct
  rw [h2, fd_su_ad, h1]
theorem fd_pt_rm {A : fd_A} {T h s : Nat} {c : Nat → Nat} (hh : h < A.1) (hT : T.testBit h = true) : fd_pt A (fd_rm T h) (fd_u c h s) = fd_pt A T c + A.2.2.1 h * A.2.2.2.2.2.2.2 s := by
  have h1 := fd_su_ix h (A.2.2.1 h * A.2.2.2.2.2.2.2 s) A.1
  rw [if_pos hh] at h1
  unfold fd_pt
  rw [← h1, ← fd_su_ad]
  exact fd_su_cg A.1 (fun i hi => by
    rw [fd_rm_b]
    by_cases e : i = h
    · rw [e, hT]; unfold fd_f; rw [fd_u_s]; simp
    · unfold fd_f; rw [fd_u_n e]; simp [e])
theorem fd_pt_b {A : fd_A} {wc : Bool} {o c : Nat → Nat} {T : Nat} {M : Nat → Nat → Int32} (hz : fd_T A wc o M) (hk : fd_Ok A wc T c) : fd_pt A T c ≤ 78408 := by
  refine Nat.le_trans (fd_su_b (B := 9801) A.1 (fun i hi => ?_)) (Nat.mul_le_mul_right 9801 hz.1.1)
  cases ht : T.testBit i with
  | true => rw [if_pos rfl]; exact Nat.zero_le _
  | false => rw [if_neg (by decide)]; exact hz.W hi (hk i hi ht).1
theorem fd_lt8 {n T : Nat} (hn : n ≤ 8) (h : ∀ k, T.testBit k = true → k < n) : T < 256 := by
  apply Nat.lt_pow_two_of_testBit (n := 8)
  intro i hi
  cases e : T.testBit i with
  | false => rfl
  | true => have := h i e; omega
theorem fd_rm_n {n T h : Nat} (hT : ∀ k, T.testBit k = true → k < n) : ∀ k, (fd_rm T h).testBit k = true → k < n := fun k hk => by
  rw [fd_rm_b, Bool.and_eq_true] at hk
  exact hT k hk.1
/-- the rooms, one by one -/
theorem fl_23 {D : Nat} {al : Nat × Nat} {kl T h dep en m' lim0 : Nat} {A : fd_A} {wc : Bool} {o c : Nat → Nat} {M0 : Nat → Nat → Int32} (hH : fd_Hs al kl A wc o en D m') (hz : fd_T A wc o M0) (hl0 : lim0 ≤ 1000001) (hen : M0 33 15 = nI en) (hen' : en ≤ 1000001) (hTn : ∀ k, T.testBit k = true → k < A.1) (hct : fd_ct A.1 T = m' + 1) (hdep : dep + (m' + 1) = A.1) (hOk : fd_Ok A wc T c) (hc : ∀ j, j < A.1 → T.testBit j = false → M0 43 j = nI (c j)) (hO : fd_O A wc T dep c (M0 40)) (hTh : T.testBit h = true) : ∀ (m s u lim : Nat) (M : Nat → Nat → Int32) (v2 : Value), s + m = A.2.1 → u < 1024 → (∀ t, t < 10 → u.testBit t = true → fd_op A wc T c h t) → lim ≤ lim0 → fd_R A wc en T dep c (fun a => a h < s ∨ u.testBit (a h) = false) M0 M lim0 lim → ∃ M' lim', ai_run (D + 1) 23 7 [.ref 33, .int (nI dep), v2, .int (nI (fd_pt A T c)), .int (nI h), .int (nI u), .int (nI (fd_rm T h)), .int (nI s)] [] (hC al kl M) = some (.inl none, hC al kl M') ∧ fd_R A wc en T dep c (fun _ => True) M0 M' lim0 lim'
  | 0, s, u, lim, M, v2, hs, hu, hut, hl, hR => by
    have hh := hTn h hTh
    have e : s = A.2.1 := by omega
    obtain ⟨r1, r2, r3, r4, r5, r6⟩ := hR
    refine ⟨M, lim, ?_, r1, r2, r3, r4, r5, fun a ha _ => r6 a ha (Or.inl (by have := (ha.1 h hh).1; omega))⟩
    rw [bq_23_7, r1.2 2 (by decide), hz.1.2.2.2.1, e, if_pos Int32.le_rfl, bq_23_10]
  | m + 1, s, u, lim, M, v2, hs, hu, hut, hl, hR => by
    have hh := hTn h hTh
    obtain ⟨⟨z1, z2, z3, z4, zy, zo⟩, zh, zw, zk, zr⟩ := id hz
    obtain ⟨r1, r2, r3, r4, r5, r6⟩ := id hR
    have hzM := hz.K r1
    have hsR : s < A.2.1 := by omega
    have hT := fd_lt8 z1 hTn
    rw [bq_23_7, r1.2 2 (by decide), z4, if_neg (nI_ge hsR (by omega)), r2, r1.2 15 (by decide), hen]
    by_cases hstop : lim ≤ en
    · refine ⟨M, lim, ?_, r1, r2, r3, r4, r5, fun a ha _ => Or.inl hstop⟩
      rw [if_pos (nI_le hstop (by omega)), bq_23_10]
    · rw [if_neg (nI_ge (by omega) (by omega))]
      cases ht : u.testBit s with
      | false =>
        obtain ⟨M', lim', p1, p2⟩ := fl_23 hH hz hl0 hen hen' hTn hct hdep hOk hc hO hTh m (s + 1) u lim M ai_un (by omega) hu hut hl ⟨r1, r2, r3, r4, r5, fun a ha hp => r6 a ha (by
          rcases hp with g | g
          · by_cases e : a h = s
            · exact Or.inr (by rw [e]; exact ht)
            · exact Or.inl (by omega)
          · exact Or.inr g)⟩
        refine ⟨M', lim', ?_, p2⟩
        rw [if_neg (fun z => by rw [fd_t1 hu (by omega), ht] at z; exact absurd z (by decide)), bq_23_9, nI_1, p1]
      | true =>
        have hop := hut s (by omega) ht
        obtain ⟨w, w1, w2, w3⟩ := (hzM.2.2.2.2 s hsR).2.2.2.2
        obtain ⟨M1, g1, g2, g3, g4, g5, g6⟩ := fw_28 (d := D) (al := al) (kl := kl) hT (by omega : dep < 8) hh hTh hsR hzM (fun k hk hk' => by rw [r3 _ (by omega)]; exact hO k hk hk') (fun j hj hj' => by rw [r4 j hj hj']; exact hc j hj hj')
        have hK1 : fd_K M M1 := ⟨fun a a1 a2 a3 a4 => g2 a a2 a3, fun j _ => by rw [g2 33 (by decide) (by decide)]⟩
        have e33 : M1 33 = M 33 := g2 33 (by decide) (by decide)
        obtain ⟨M2, lim2, q1, k1, k2, k3, k4, k5, k6⟩ := hH (fd_rm T h) (dep + 1) (fd_u c h s) M1 lim (hzM.K hK1) (by rw [e33]; exact r2) (by omega) (by rw [e33, r1.2 15 (by decide)]; exact hen) (fd_rm_n hTn) (by have := fd_ct_rm hh hTh; omega) (by omega) (hOk.rm zy hh hop) g5 g6
        have hfin : ∀ a, fd_Cp A wc T c a → a h = s → lim2 ≤ en ∨ lim2 ≤ fd_S A a := fun a ha e => k6 a ((fd_Cp.rm hh hTh).mpr ⟨ha, e⟩) trivial
        have hle : lim2 ≤ lim := by rcases k5 with ⟨e, -⟩ | ⟨e, -⟩ <;> omega
        have hu' : u &&& (u ^^^ w) < 1024 := Nat.lt_of_le_of_lt Nat.and_le_left hu
        have hR2 : fd_R A wc en T dep c (fun a => a h < s + 1 ∨ (u &&& (u ^^^ w)).testBit (a h) = false) M0 M2 lim0 lim2 := by
          refine ⟨r1.tr (hK1.tr k1), k2, fun j hj => by rw [k3 j (by omega), g3 j hj, r3 j hj], fun j hj hj' => by
            have hne : j ≠ h := fun e => by rw [e, hTh] at hj'; exact absurd hj' (by decide)
            rw [k4 j hj (fd_rm_f.mpr (Or.inl hj')), g4 j hne, r4 j hj hj'], ?_, fun a ha hp => ?_⟩
          · rcases k5 with ⟨e1, e2⟩ | ⟨e1, a, e2, e3, e4⟩
            · rcases r5 with ⟨f1, f2⟩ | ⟨f1, a, f2, f3, f4⟩
              · exact Or.inl ⟨e1.trans f1, by rw [e2, g2 44 (by decide) (by decide), f2]⟩
              · exact Or.inr ⟨by omega, a, f2, f3.trans e1.symm, fun j hj => by rw [e2, g2 44 (by decide) (by decide)]; exact f4 j hj⟩
            · exact Or.inr ⟨by omega, a, ((fd_Cp.rm hh hTh).mp e2).1, e3, e4⟩
          · have hah := (ha.1 h hh).1
            by_cases e : a h = s
            · exact hfin a ha e
            · have old : a h < s ∨ u.testBit (a h) = false → lim2 ≤ en ∨ lim2 ≤ fd_S A a := fun hp' => by
                rcases r6 a ha hp' with g | g
                · exact Or.inl (by omega)
                · exact Or.inr (by omega)
              rcases hp with g | g
              · exact old (Or.inl (by omega))
              · cases hua : u.testBit (a h) with
                | false => exact old (Or.inr hua)
                | true =>
                  have hw : w.testBit (a h) = true := by
                    rw [Nat.testBit_and, Nat.testBit_xor, hua] at g
                    cases hw : w.testBit (a h) with
                    | true => rfl
                    | false => rw [hw] at g; exact absurd g (by decide)
                  obtain ⟨a', b1, b2⟩ := fd_Cp.tn hh hTh hop ha (w3 _ (by omega) hw)
                  rw [← b2]
                  exact k6 a' b1 trivial
        obtain ⟨M', lim', p1, p2⟩ := fl_23 hH hz hl0 hen hen' hTn hct hdep hOk hc hO hTh m (s + 1) (u &&& (u ^^^ w)) lim2 M2 ai_un (by omega) hu' (fun t ht' hb => hut t ht' (by rw [Nat.testBit_and, Bool.and_eq_true] at hb; exact hb.1)) (by omega) hR2
        refine ⟨M', lim', ?_, p2⟩
        have i10 : ai_in (nI s) 10 = true := by rw [fi_in (by omega)]; exact decide_eq_true (by omega)
        have i8 : ai_in (nI h) 8 = true := by rw [fi_in (by omega)]; exact decide_eq_true (by omega)
        have hz1 := hzM.K hK1
        rw [if_pos ((fd_t1 hu (by omega)).mpr ht), i10, cond_true, nI_clamp (by omega), w2, fd_no, g1, fb_n, bq_23_8, i8, cond_true, i10, cond_true, nI_clamp (by omega), nI_clamp (by omega), (hz1.2.1 h hh).2.1.1, (hz1.2.2.2.2 s hsR).1.1, pk_mul, nI_add, nI_1, ← fd_pt_rm hh hTh, q1, fb_n, bq_23_9, nI_1, p1]
theorem fd_search {al : Nat × Nat} {kl en : Nat} {A : fd_A} {wc : Bool} {o : Nat → Nat} (hen' : en ≤ 1000001) : ∀ (m d : Nat), fd_Hs al kl A wc o en (d + m + 3) m
  | 0, d => fun T dep c M lim hz hl hl' hen hTn hct hdep hOk hc hO => by
    have hno : ∀ k, T.testBit k = false := fun k => by
      cases e : T.testBit k with
      | false => rfl
      | true =>
        have := fd_su_on (f := fun h => if T.testBit h then 1 else 0) A.1 k (hTn k e)
        rw [if_pos e] at this
        unfold fd_ct at hct
        omega
    have hT0 : T = 0 := Nat.eq_of_testBit_eq (fun i => by rw [hno i, Nat.zero_testBit])
    have hV : fd_Cp A wc T c c := ⟨fun i hi => ⟨(hOk i hi (hno i)).1, fun k hk hne => (hOk i hi (hno i)).2 k hk (hno k) hne⟩, fun _ _ _ => rfl⟩
    have hS : fd_S A c = fd_pt A T c := fd_su_cg A.1 (fun i hi => by rw [hno i]; rfl)
    have hSa : ∀ a, fd_Cp A wc T c a → fd_S A a = fd_pt A T c := fun a ha => by
      rw [← hS]
      exact fd_su_cg A.1 (fun i hi => by unfold fd_f; rw [ha.2 i hi (hno i)])
    have hb := fd_pt_b hz hOk
    obtain ⟨z1, z2, z3, -⟩ := hz.1
    by_cases hk : lim ≤ fd_pt A T c
    · refine ⟨M, lim, ?_, fd_K.rf, hl, fun _ _ => rfl, fun _ _ _ => rfl, Or.inl ⟨rfl, rfl⟩, fun a ha _ => Or.inr (by rw [hSa a ha]; exact hk)⟩
      rw [bq_23_0, if_pos (show nI T = 0 by rw [hT0]; rfl), bq_24_0, hl, if_pos (nI_le hk (by omega)), bq_24_2, fb_n, bq_23_1]
    · obtain ⟨M', p1, p2, p3⟩ := fl_24 (d := d + 2) (al := al) (kl := kl) z1 A.1 0 (ai_up M 33 14 (nI (fd_pt A T c))) (.int (nI (fd_pt A T c))) (by omega) z3 (fun j hj => absurd hj (Nat.not_lt_zero _))
      refine ⟨M', fd_pt A T c, ?_, ⟨fun a a1 a2 a3 a4 => by rw [p2 a a4, fu_row a1], fun j hj => by rw [p2 33 (by decide), fu_ne hj]⟩, by rw [p2 33 (by decide), fu_at], fun j hj => by rw [p2 40 (by decide)]; rfl, fun j _ _ => by rw [p2 43 (by decide)]; rfl, Or.inr ⟨by omega, c, hV, hS, fun j hj => by rw [p3 j hj]; exact hc j hj (hno j)⟩, fun a ha _ => Or.inr (by rw [hSa a ha]; exact Nat.le_refl _)⟩
      rw [bq_23_0, if_pos (show nI T = 0 by rw [hT0]; rfl), bq_24_0, hl, if_neg (nI_ge (by omega) (by omega))]
      have p1' : ai_run (d + 2) 24 1 [.ref 33, .int (nI (fd_pt A T c)), .int 0] [] (hC al kl (ai_up M 33 14 (nI (fd_pt A T c)))) = some (.inl none, hC al kl M') := p1
      rw [p1', fb_n, bq_23_1]
  | m + 1, d => fun T dep c M lim hz hl hl' hen hTn hct hdep hOk hc hO => by
    obtain ⟨z1, z2, z3, z4, zy, zo⟩ := hz.1
    have hT := fd_lt8 z1 hTn
    have hb := fd_pt_b hz hOk
    have hne : ∃ k, k < A.1 ∧ T.testBit k = true := by
      obtain ⟨i, i1, i2⟩ := fd_su_ex (f := fun h => if T.testBit h then 1 else 0) A.1 (by unfold fd_ct at hct; omega)
      cases e : T.testBit i with
      | true => exact ⟨i, i1, e⟩
      | false => rw [e] at i2; exact absurd i2 (by decide)
    have hT0 : ¬ nI T = 0 := fun z => by
      have : T = 0 := (nI_eq (b := 0) (by omega) (by omega)).mp z
      obtain ⟨k, -, k2⟩ := hne
      rw [this, Nat.zero_testBit] at k2
      exact absurd k2 (by decide)
    have w : ∃ v, ai_run (d + m + 3) 25 0 [.ref 33, .int (nI dep), .int (nI T), .int (nI (fd_pt A T c)), ai_un, ai_un, ai_un, ai_un, ai_un, ai_un, ai_un, ai_un] [] (hC al kl M) = some (.inl (some (.int v)), hC al kl M) ∧ ((v = -1 ∧ ∀ a, fd_Cp A wc T c a → lim ≤ fd_S A a) ∨ ∃ h, h < A.1 ∧ T.testBit h = true ∧ v = nI h) := fw_25 (d := d + m + 1) hz hT (by omega) hO hne hl hl' (by omega)
    obtain ⟨v, w1, w2⟩ := w
    have e8 : ¬ (8 : Int32) ≤ nI dep := nI_ge (a := dep) (b := 8) (by omega) (by omega)
    have run1 : ai_run (d + (m + 1) + 3) 23 0 [.ref 33, .int (nI dep), .int (nI T), .int (nI (fd_pt A T c)), ai_un, ai_un, ai_un, ai_un] [] (hC al kl M) = ai_run (d + m + 3 + 1) 23 5 [.ref 33, .int (nI dep), .int (nI T), .int (nI (fd_pt A T c)), ai_un, ai_un, ai_un, ai_un] [.int v] (hC al kl M) := by
      rw [show d + (m + 1) + 3 = d + m + 3 + 1 by omega, bq_23_0, if_neg hT0, bq_23_2, if_neg e8, w1, fb_s, bq_23_3]
    rcases w2 with ⟨e, hall⟩ | ⟨h, hh, hTh, e⟩
    · refine ⟨M, lim, ?_, fd_K.rf, hl, fun _ _ => rfl, fun _ _ _ => rfl, Or.inl ⟨rfl, rfl⟩, fun a ha _ => Or.inr (hall a ha)⟩
      rw [run1, bq_23_5, if_pos e]
    · obtain ⟨u, u1, u2, u3⟩ := hO h hh hTh
      obtain ⟨M', lim', p1, p2⟩ := fl_23 (fd_search (al := al) (kl := kl) (wc := wc) (o := o) hen' m d) hz hl' hen hen' hTn hct hdep hOk hc hO hTh A.2.1 0 u lim M (.int (nI T)) (by omega) u1 (fun t ht hb => (u3 t ht).mp hb) (Nat.le_refl _) ⟨fd_K.rf, hl, fun _ _ => rfl, fun _ _ _ => rfl, Or.inl ⟨rfl, rfl⟩, fun a ha hp => by
        exfalso
        rcases hp with g | g
        · exact absurd g (Nat.not_lt_zero _)
        · have h1 := ha.op hh hTh
          have h2 := (u3 _ (by have := h1.1; omega)).mpr h1
          rw [g] at h2
          exact absurd h2 (by decide)⟩
      refine ⟨M', lim', ?_, p2⟩
      have eix : nI dep * 8 + nI h = nI (8 * dep + h) := by rw [show (8 : Int32) = nI 8 from rfl, pk_mul, nI_add, Nat.mul_comm]
      rw [run1, bq_23_5, e, if_neg (fi_m1 (by omega)), bq_23_6, eix, fi_in (by omega), decide_eq_true (by omega), cond_true, nI_clamp (by omega), u2, fd_p2 h (by omega), fd_no]
      exact p1
