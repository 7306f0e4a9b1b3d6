/-! the pleas -/
/-- how many of the first k -/
def fn_ct (P : Nat → Bool) : Nat → Nat
  | 0 => 0
  | k + 1 => fn_ct P k + (if P k = true then 1 else 0)
theorem fn_ct_cg {P Q : Nat → Bool} : ∀ k : Nat, (∀ q, q < k → P q = Q q) → fn_ct P k = fn_ct Q k
  | 0, _ => rfl
  | k + 1, h => by
    unfold fn_ct
    rw [fn_ct_cg k (fun q hq => h q (by omega)), h k (by omega)]
theorem fn_ct_0 {P : Nat → Bool} : ∀ k : Nat, (∀ q, q < k → P q = false) → fn_ct P k = 0
  | 0, _ => rfl
  | k + 1, h => by
    unfold fn_ct
    rw [fn_ct_0 k (fun q hq => h q (by omega)), h k (by omega)]
    rfl
theorem fn_ct_rm {P : Nat → Bool} {x : Nat} : ∀ k : Nat, x < k → P x = true → fn_ct P k = fn_ct (fun q => P q && !(q == x)) k + 1
  | 0, h, _ => absurd h (Nat.not_lt_zero _)
  | k + 1, h, hx => by
    unfold fn_ct
    by_cases hk : x = k
    · subst hk
      rw [fn_ct_cg (Q := fun q => P q && !(q == x)) x (fun q hq => by
        have : (q == x) = false := beq_eq_false_iff_ne.mpr (by omega)
        simp [this])]
      simp [hx]
    · rw [fn_ct_rm k (by omega) hx]
      have : (k == x) = false := beq_eq_false_iff_ne.mpr (fun q => hk q.symm)
      simp only [this, Bool.not_false, Bool.and_true]
      omega
theorem fn_ct_W {W : Nat → Nat} {k : Nat} : ∀ (i : Nat) (P : Nat → Bool), (∀ a, a < i → W a < k) → (∀ a b, a < b → b < i → W a ≠ W b) → (∀ q, q < k → (P q = true ↔ ∃ a, a < i ∧ W a = q)) → fn_ct P k = i
  | 0, P, _, _, h => fn_ct_0 k (fun q hq => by
    cases hp : P q with
    | false => rfl
    | true => obtain ⟨a, ha, -⟩ := (h q hq).mp hp; exact absurd ha (Nat.not_lt_zero _))
  | i + 1, P, h1, h2, h3 => by
    have hx := h1 i (by omega)
    rw [fn_ct_rm (x := W i) k hx ((h3 _ hx).mpr ⟨i, by omega, rfl⟩), fn_ct_W i _ (fun a ha => h1 a (by omega)) (fun a b ha hb => h2 a b ha (by omega)) (fun q hq => by
      simp only [Bool.and_eq_true, Bool.not_eq_true', beq_eq_false_iff_ne]
      rw [h3 q hq]
      constructor
      · rintro ⟨⟨a, ha, rfl⟩, hn⟩
        have : a ≠ i := fun e => hn (by rw [e])
        exact ⟨a, by omega, rfl⟩
      · rintro ⟨a, ha, rfl⟩
        exact ⟨⟨a, by omega, rfl⟩, h2 a i ha (by omega)⟩)]
theorem fn_bef.irr {u : Nat → Int32} {a : Nat} (h : fn_bef u a a) : False := by
  rcases h with h | ⟨-, h⟩
  · exact Int32.lt_irrefl h
  · exact Nat.lt_irrefl _ h
theorem fn_bef.asy {u : Nat → Int32} {a b : Nat} (h : fn_bef u a b) (h' : fn_bef u b a) : False := by
  rcases h with h | ⟨e, h⟩
  · rcases h' with g | ⟨e', g⟩
    · exact absurd h (Int32.not_lt.mpr (Int32.le_of_lt g))
    · rw [e'] at h; exact Int32.lt_irrefl h
  · rcases h' with g | ⟨e', g⟩
    · rw [e] at g; exact Int32.lt_irrefl g
    · omega
theorem fn_ord.inj {k w : Nat} {W : Nat → Nat} {u hd : Nat → Int32} (h : fn_ord k w W u hd) {a b : Nat} (hab : a < b) (hb : b < w) : W a ≠ W b := by
  intro e
  have := h.2.2 a b hab hb
  rw [e] at this
  exact this.irr
theorem fn_ord.cg {k w : Nat} {W : Nat → Nat} {u hd u' hd' : Nat → Int32} (h : fn_ord k w W u hd) (hu : ∀ j, j < k → u j = u' j ∧ hd j = hd' j) : fn_ord k w W u' hd' := by
  refine ⟨fun i hi => ⟨(h.1 i hi).1, ?_⟩, fun j hj he => h.2.1 j hj ((hu j hj).2.trans he), fun i i' hi hi' => ?_⟩
  · rw [← (hu _ (h.1 i hi).1).2]; exact (h.1 i hi).2
  · have := h.2.2 i i' hi hi'
    unfold fn_bef at this ⊢
    rw [← (hu _ (h.1 i (by omega)).1).1, ← (hu _ (h.1 i' hi').1).1]
    exact this
/-- plea q stands ahead of plea p -/
def fn_ah (u hd : Nat → Int32) (p : Nat) (q : Nat) : Bool := decide (hd q = -2 ∧ (u p < u q ∨ u q = u p ∧ q < p))
theorem fn_ord.ct {k w : Nat} {W : Nat → Nat} {u hd : Nat → Int32} (h : fn_ord k w W u hd) {i : Nat} (hi : i < w) : fn_ct (fn_ah u hd (W i)) k = i := by
  refine fn_ct_W (W := W) i _ (fun a ha => (h.1 a (by omega)).1) (fun a b ha hb => h.inj ha (by omega)) (fun q hq => ?_)
  unfold fn_ah
  rw [decide_eq_true_iff]
  constructor
  · rintro ⟨h1, h2⟩
    obtain ⟨a, ha, e⟩ := h.2.1 q hq h1
    have hb : fn_bef u (W a) (W i) := by
      subst e
      rcases h2 with g | ⟨g1, g2⟩
      · exact Or.inl g
      · exact Or.inr ⟨g1, g2⟩
    refine ⟨a, ?_, e⟩
    rcases Nat.lt_trichotomy a i with g | g | g
    · exact g
    · subst g; exact absurd hb (fun q => q.irr)
    · exact absurd (h.2.2 i a g ha) (fun q => q.asy hb)
  · rintro ⟨a, ha, e⟩
    subst e
    refine ⟨(h.1 a (by omega)).2, ?_⟩
    rcases h.2.2 a i ha hi with g | ⟨g1, g2⟩
    · exact Or.inl g
    · exact Or.inr ⟨g1, g2⟩
/-- the reference's urgencies -/
def fn_ug (M : Nat → Nat → Int32) (j : Nat) : Int32 := M 19 j - M 20 j
theorem fl_204a {d : Nat} {al : Nat × Nat} {M : Nat → Nat → Int32} {N : Nat → Nat → Int64} {k p : Nat} {x : Int32} (hk : k ≤ 60) (h7 : M 0 7 = nI k) (hp : p < k) : ∀ (m j : Nat) (v6 : Value), j + m = k → ai_run d 204 3 [.ref 0, .int x, .int (nI p), .int (fn_ug M p), .int (nI (fn_ct (fn_ah (fn_ug M) (M 21) p) j)), .int (nI j), v6] [] (hM al M N) = ai_run d 204 7 [.ref 0, .int x, .int (nI p), .int (fn_ug M p), .int (nI (fn_ct (fn_ah (fn_ug M) (M 21) p) k)), .int (nI k), ai_un] [] (hM al M N)
  | 0, j, v6, h => by
    have hj : j = k := by omega
    subst hj
    rw [bq_204_3, h7, if_pos Int32.le_rfl]
  | m + 1, j, v6, h => by
    have e1 : ∀ b : Bool, fn_ah (fn_ug M) (M 21) p j = b → nI (fn_ct (fn_ah (fn_ug M) (M 21) p) j) + (if b = true then (1 : Int32) else 0) = nI (fn_ct (fn_ah (fn_ug M) (M 21) p) (j + 1)) := by
      intro b hb
      show _ = nI (fn_ct _ j + (if fn_ah (fn_ug M) (M 21) p j = true then 1 else 0))
      rw [hb]
      cases b
      · exact Int32.add_zero _
      · exact nI_1 _
    rw [bq_204_3, h7, if_neg (nI_ge (by omega) (by omega)), fi_in (by omega), decide_eq_true (by omega), cond_true, cond_true, cond_true, nI_clamp (by omega)]
    have hpl : nI p ≤ nI j ↔ ¬ j < p := by rw [nI_leI (by omega) (by omega)]; omega
    by_cases c1 : M 21 j = -2
    · rw [if_pos c1]
      by_cases c2 : fn_ug M p < M 19 j - M 20 j
      · have hb : fn_ah (fn_ug M) (M 21) p j = true := decide_eq_true ⟨c1, Or.inl c2⟩
        rw [if_pos c2, bq_204_4, bq_204_6, nI_1 j, show nI (fn_ct (fn_ah (fn_ug M) (M 21) p) j) + 1 = nI (fn_ct (fn_ah (fn_ug M) (M 21) p) (j + 1)) from e1 true hb, fl_204a hk h7 hp m (j + 1) _ (by omega)]
      · rw [if_neg c2]
        by_cases c3 : M 19 j - M 20 j = fn_ug M p
        · rw [if_pos c3]
          by_cases c4 : j < p
          · have hb : fn_ah (fn_ug M) (M 21) p j = true := decide_eq_true ⟨c1, Or.inr ⟨c3, c4⟩⟩
            rw [if_neg (fun q => hpl.mp q c4), bq_204_4, bq_204_6, nI_1 j, show nI (fn_ct (fn_ah (fn_ug M) (M 21) p) j) + 1 = nI (fn_ct (fn_ah (fn_ug M) (M 21) p) (j + 1)) from e1 true hb, fl_204a hk h7 hp m (j + 1) _ (by omega)]
          · have hb : fn_ah (fn_ug M) (M 21) p j = false := decide_eq_false (fun q => q.2.elim c2 (fun g => c4 g.2))
            rw [if_pos (hpl.mpr c4), bq_204_5, bq_204_6, nI_1 j, show nI (fn_ct (fn_ah (fn_ug M) (M 21) p) j) + 0 = nI (fn_ct (fn_ah (fn_ug M) (M 21) p) (j + 1)) from e1 false hb, fl_204a hk h7 hp m (j + 1) _ (by omega)]
        · have hb : fn_ah (fn_ug M) (M 21) p j = false := decide_eq_false (fun q => q.2.elim c2 (fun g => c3 g.1))
          rw [if_neg c3, bq_204_5, bq_204_6, nI_1 j, show nI (fn_ct (fn_ah (fn_ug M) (M 21) p) j) + 0 = nI (fn_ct (fn_ah (fn_ug M) (M 21) p) (j + 1)) from e1 false hb, fl_204a hk h7 hp m (j + 1) _ (by omega)]
    · have hb : fn_ah (fn_ug M) (M 21) p j = false := decide_eq_false (fun q => c1 q.1)
      rw [if_neg c1, bq_204_5, bq_204_6, nI_1 j, show nI (fn_ct (fn_ah (fn_ug M) (M 21) p) j) + 0 = nI (fn_ct (fn_ah (fn_ug M) (M 21) p) (j + 1)) from e1 false hb, fl_204a hk h7 hp m (j + 1) _ (by omega)]
/-- the one in turn -/
theorem fl_204 {d : Nat} {al : Nat × Nat} {M : Nat → Nat → Int32} {N : Nat → Nat → Int64} {k w : Nat} {W : Nat → Nat} {x : Int32} (hk : k ≤ 60) (hw : w ≤ k) (h7 : M 0 7 = nI k) (ho : fn_ord k w W (fn_ug M) (M 21)) : ∀ (m p : Nat) (v3 v4 v5 v6 : Value), p + m = k → (∀ i, i < w → x = nI i → p ≤ W i) → ai_run d 204 1 [.ref 0, .int x, .int (nI p), v3, v4, v5, v6] [] (hM al M N) = some (.inl (some (.int (if 0 ≤ x ∧ x < nI w then nI (W x.toNatClampNeg) else -1))), hM al M N)
  | 0, p, v3, v4, v5, v6, h, hi => by
    have hp : p = k := by omega
    subst hp
    rw [bq_204_1, h7, if_pos Int32.le_rfl, bq_204_9, if_neg]
    intro hx
    obtain ⟨i, i1, i2⟩ := fi_of (by omega) hx
    have := hi i i1 i2
    have := (ho.1 i i1).1
    omega
  | m + 1, p, v3, v4, v5, v6, h, hi => by
    have go : (∀ i, i < w → x = nI i → p ≠ W i) → ai_run d 204 1 [.ref 0, .int x, .int (nI p + 1), ai_un, ai_un, ai_un, ai_un] [] (hM al M N) = some (.inl (some (.int (if 0 ≤ x ∧ x < nI w then nI (W x.toNatClampNeg) else -1))), hM al M N) := by
      intro hne
      rw [nI_1, fl_204 hk hw h7 ho m (p + 1) _ _ _ _ (by omega) (fun i hi1 hi2 => by
        have a1 := hi i hi1 hi2
        have a2 := hne i hi1 hi2
        omega)]
    rw [bq_204_1, h7, if_neg (nI_ge (by omega) (by omega)), fi_in (by omega), decide_eq_true (by omega), cond_true, nI_clamp (by omega)]
    by_cases c1 : M 21 p = -2
    · obtain ⟨a, a1, a2⟩ := ho.2.1 p (by omega) c1
      have hct : fn_ct (fn_ah (fn_ug M) (M 21) p) k = a := by rw [← a2]; exact ho.ct a1
      rw [if_pos c1, bq_204_2, fi_in (by omega), decide_eq_true (by omega), cond_true, cond_true, nI_clamp (by omega)]
      have l := fl_204a (d := d) (al := al) (N := N) (x := x) hk h7 (show p < k by omega) k 0 ai_un (by omega)
      rw [show nI (fn_ct (fn_ah (fn_ug M) (M 21) p) 0) = 0 from rfl, show nI 0 = 0 from rfl, hct] at l
      show ai_run d 204 3 [.ref 0, .int x, .int (nI p), .int (fn_ug M p), .int 0, .int 0, ai_un] [] (hM al M N) = _
      rw [l, bq_204_7]
      by_cases c2 : nI a = x
      · have hx : 0 ≤ x ∧ x < nI w := by rw [← c2]; exact ⟨nI_pos' (by omega), nI_lt a1 (by omega)⟩
        rw [if_pos c2, if_pos hx, ← c2, nI_clamp (by omega), a2]
      · rw [if_neg c2, bq_204_8]
        exact go (fun i hi1 hi2 e => c2 (by
          have : a = i := by
            rcases Nat.lt_trichotomy a i with g | g | g
            · exact absurd (a2.trans e) (ho.inj g hi1)
            · exact g
            · exact absurd (a2.trans e).symm (ho.inj g a1)
          rw [this, hi2]))
    · rw [if_neg c1, bq_204_8]
      exact go (fun i hi1 hi2 e => c1 (by rw [e]; exact (ho.1 i hi1).2))
theorem fw_204 {d : Nat} {al : Nat × Nat} {M : Nat → Nat → Int32} {N : Nat → Nat → Int64} {k w : Nat} {W : Nat → Nat} {x : Int32} (hk : k ≤ 60) (hw : w ≤ k) (h7 : M 0 7 = nI k) (ho : fn_ord k w W (fn_ug M) (M 21)) {v2 v3 v4 v5 v6 : Value} : ai_run d 204 0 [.ref 0, .int x, v2, v3, v4, v5, v6] [] (hM al M N) = some (.inl (some (.int (if 0 ≤ x ∧ x < nI w then nI (W x.toNatClampNeg) else -1))), hM al M N) := by
  rw [bq_204_0]
  exact fl_204 hk hw h7 ho k 0 _ _ _ _ (by omega) (fun _ _ _ => Nat.zero_le _)
theorem ft_133 {n np t : Nat} {M MM : Nat → Nat → Int32} (h : fn_I n np t M MM) (x : Int32) : fn_S 133 207 [.int x] M MM := by
  intro al am kl N
  obtain ⟨k, w, W, k1, k2, k3, k4, k5, k6, k7, k8⟩ := h.que
  have ho : fn_ord k w W (fn_ug (ai_up MM 0 0 0)) ((ai_up MM 0 0 0) 21) := k8.cg k6
  rw [show ai_ent (ai_mx 133) [.ref 0, .int x] = [.ref 0, .int x] from rfl, show ai_ent (ai_mx 207) [.ref 0, .int x] = [.ref 0, .int x] from rfl]
  rw [bq_133_0, bq_207_0, fw_204 k2 k1 (show (ai_up MM 0 0 0) 0 7 = nI k from k5) ho, fb_s, bq_207_1, bq_45_0, k4]
  by_cases g1 : x < 0
  · rw [if_pos g1, bq_45_1, bq_45_2, fb_s, bq_133_1, if_neg (fun q => absurd g1 (Int32.not_lt.mpr q.1))]
    exact ⟨_, n, np, t, _, _, rfl, rfl, ⟨rfl, rfl⟩, h.z⟩
  · by_cases g2 : nI w ≤ x
    · rw [if_neg g1, if_pos g2, bq_45_1, bq_45_2, fb_s, bq_133_1, if_neg (fun q => absurd g2 (Int32.not_le.mpr q.2))]
      exact ⟨_, n, np, t, _, _, rfl, rfl, ⟨rfl, rfl⟩, h.z⟩
    · have hx : 0 ≤ x ∧ x < nI w := ⟨Int32.not_lt.mp g1, Int32.not_le.mp g2⟩
      obtain ⟨p, p1, p2⟩ := fi_of (n := w) (by omega) hx
      have i0 : ai_in x 60 = true := by rw [p2, fi_in (by omega)]; exact decide_eq_true (by omega)
      have c0 : x.toNatClampNeg = p := by rw [p2]; exact nI_clamp (by omega)
      rw [if_neg g1, if_neg g2, i0, cond_true, bq_45_2, fb_s, bq_133_1, if_pos hx, c0, k7 p p1]
      exact ⟨_, n, np, t, _, _, rfl, rfl, ⟨rfl, rfl⟩, h.z⟩
