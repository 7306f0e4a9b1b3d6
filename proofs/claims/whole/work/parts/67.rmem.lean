/-! routes: the class's memory -/
def fr_bA (x : Int32) : Int32 := (x.toUInt32 >>> ((16 : Int32).toUInt32 &&& Int32.toUInt32 31)).toInt32
def fr_bB (x : Int32) : Int32 := (x >>> ((8 : Int32) &&& 31)) &&& (255 : Int32)
def fr_bC (x : Int32) : Int32 := x &&& (255 : Int32)
theorem fb_k1 : ∀ i : Nat, i < 32 → (4294902015#32).getLsbD i = decide (i < 8 ∨ 16 ≤ i) := by decide
theorem fb_k2 : ∀ i : Nat, i < 32 → (4294967040#32).getLsbD i = decide (8 ≤ i) := by decide
theorem fb_k3 : ∀ i : Nat, i < 32 → (255#32).getLsbD i = decide (i < 8) := by decide
theorem fb_v {v i : Nat} (hv : v < 256) (hi : 8 ≤ i) : v.testBit i = false := Nat.testBit_lt_two_pow (Nat.lt_of_lt_of_le hv (Nat.pow_le_pow_right (n := 2) (i := 8) (by omega) hi))
theorem fb_nv (v i : Nat) : (nI v).toBitVec.getLsbD i = (decide (i < 32) && v.testBit i) := by
  show (BitVec.ofNat 32 v).getLsbD i = _
  rw [BitVec.getLsbD_ofNat]
theorem fb_y1 {x : Int32} {v : Nat} (hv : v < 256) : fr_bA ((x &&& (-65281 : Int32)) ||| (nI v <<< ((8 : Int32) &&& 31))) = fr_bA x ∧ fr_bB ((x &&& (-65281 : Int32)) ||| (nI v <<< ((8 : Int32) &&& 31))) = nI v ∧ fr_bC ((x &&& (-65281 : Int32)) ||| (nI v <<< ((8 : Int32) &&& 31))) = fr_bC x := by
  refine ⟨?_, ?_, ?_⟩ <;> apply Int32.toBitVec_inj.mp
  · simp [fr_bA]
    apply BitVec.eq_of_getLsbD_eq
    intro i hi
    simp [fb_nv]
    by_cases c : 16 + i < 32
    · simp [fb_k1 _ c, fb_v hv (show 8 ≤ 16 + i - 8 by omega), show 16 ≤ 16 + i by omega]
    · have z : x.toBitVec.getLsbD (16 + i) = false := BitVec.getLsbD_of_ge _ _ (by omega)
      simp [c, z]
  · simp [fr_bB]
    apply BitVec.eq_of_getLsbD_eq
    intro i hi
    simp [fb_nv, fb_k3 i hi, BitVec.getLsbD_sshiftRight]
    by_cases c : i < 8
    · have k : (4294902015#32)[8 + i]'(show 8 + i < 32 by omega) = false := by
        rw [← BitVec.getLsbD_eq_getElem, fb_k1 _ (show 8 + i < 32 by omega)]
        exact decide_eq_false (by omega)
      simp [c, hi, show ¬ 32 ≤ i by omega, show 8 + i < 32 by omega, k]
    · simp [c, fb_v hv (show 8 ≤ i by omega)]
  · simp [fr_bC]
    apply BitVec.eq_of_getLsbD_eq
    intro i hi
    simp [fb_nv, fb_k3 i hi, fb_k1 i hi]
    by_cases c : i < 8
    · simp [c]
    · simp [c]
theorem fb_y2 {x : Int32} {v : Nat} (hv : v < 256) : fr_bA ((x &&& (-256 : Int32)) ||| nI v) = fr_bA x ∧ fr_bB ((x &&& (-256 : Int32)) ||| nI v) = fr_bB x ∧ fr_bC ((x &&& (-256 : Int32)) ||| nI v) = nI v := by
  refine ⟨?_, ?_, ?_⟩ <;> apply Int32.toBitVec_inj.mp
  · simp [fr_bA]
    apply BitVec.eq_of_getLsbD_eq
    intro i hi
    simp [fb_nv]
    by_cases c : 16 + i < 32
    · simp [fb_k2 _ c, fb_v hv (show 8 ≤ 16 + i by omega), show 8 ≤ 16 + i by omega]
    · have z : x.toBitVec.getLsbD (16 + i) = false := BitVec.getLsbD_of_ge _ _ (by omega)
      simp [c, z]
  · simp [fr_bB]
    apply BitVec.eq_of_getLsbD_eq
    intro i hi
    simp [fb_nv, fb_k3 i hi, BitVec.getLsbD_sshiftRight]
    by_cases c : i < 8
    · simp [c, hi, show ¬ 32 ≤ i by omega, show 8 + i < 32 by omega, fb_k2 _ (show 8 + i < 32 by omega), show 8 ≤ 8 + i by omega, fb_v hv (show 8 ≤ 8 + i by omega)]
    · simp [c]
  · simp [fr_bC]
    apply BitVec.eq_of_getLsbD_eq
    intro i hi
    simp [fb_nv, fb_k3 i hi, fb_k2 i hi]
    by_cases c : i < 8
    · simp [c, hi, show ¬ 8 ≤ i by omega]
    · simp [c, fb_v hv (show 8 ≤ i by omega)]
theorem fb_y0 : ∀ m, m < 600 → fr_bA (((nI m <<< ((16 : Int32) &&& 31)) ||| (65024 : Int32)) ||| (254 : Int32)) = nI m ∧ fr_bB (((nI m <<< ((16 : Int32) &&& 31)) ||| (65024 : Int32)) ||| (254 : Int32)) = 254 ∧ fr_bC (((nI m <<< ((16 : Int32) &&& 31)) ||| (65024 : Int32)) ||| (254 : Int32)) = 254 := by decide +kernel
def fr_ot (st s : Nat) : Nat := s % 2 ^ st + s / 2 ^ (st + 1) * 2 ^ st
def fr_iv (st o : Nat) : Nat := o % 2 ^ st + 2 ^ st + o / 2 ^ st * 2 ^ (st + 1)
theorem fb_ot : ∀ st, st < 9 → ∀ s, s < 512 → ((nI s &&& (((1 : Int32) <<< (nI st &&& 31)) - (1 : Int32))) ||| ((nI s >>> ((nI st + (1 : Int32)) &&& 31)) <<< (nI st &&& 31))) = nI (fr_ot st s) ∧ (s.testBit st = true → fr_iv st (fr_ot st s) = s) := by decide +kernel
theorem fb_ol : ∀ np, np < 10 → ∀ st, st < np → ∀ s, s < 2 ^ np → fr_ot st s < 2 ^ (np - 1) := by decide +kernel
/-- where it is known -/
def fr_sl (np st i p s : Nat) : Nat := (fr_ot st s * np + p) * 21 + i
theorem fr_sl_lt {np st i p s : Nat} (hn : np < 10) (hst : st < np) (hi : i < 21) (hp : p < np) (hs : s < 2 ^ np) : fr_sl np st i p s < 2 ^ (np - 1) * np * 21 := by
  have h := fb_ol np hn st hst s hs
  unfold fr_sl
  have h1 : (fr_ot st s + 1) * np ≤ 2 ^ (np - 1) * np := Nat.mul_le_mul_right np h
  rw [Nat.add_mul, Nat.one_mul] at h1
  omega
theorem fr_sl_inj {np st i p s i' p' s' : Nat} (hn : np < 10) (hst : st < np) (hi : i < 21) (hp : p < np) (hs : s < 2 ^ np) (hb : s.testBit st = true) (hi' : i' < 21) (hp' : p' < np) (hs' : s' < 2 ^ np) (hb' : s'.testBit st = true) (h : fr_sl np st i p s = fr_sl np st i' p' s') : i = i' ∧ p = p' ∧ s = s' := by
  unfold fr_sl at h
  have e1 : i = i' := by omega
  have e2 : fr_ot st s * np + p = fr_ot st s' * np + p' := by omega
  have e3 : p = p' := by
    have := congrArg (· % np) e2
    simp only [Nat.mul_add_mod_self_right, Nat.mod_eq_of_lt hp, Nat.mod_eq_of_lt hp'] at this
    exact this
  have e4 : fr_ot st s = fr_ot st s' := by
    have := congrArg (· / np) e2
    have hnp : 0 < np := by omega
    simp only [Nat.mul_comm _ np, Nat.mul_add_div hnp, Nat.div_eq_of_lt hp, Nat.div_eq_of_lt hp', Nat.add_zero] at this
    exact this
  refine ⟨e1, e3, ?_⟩
  rw [← (fb_ot st (by omega) s (fb_512 (by omega) hs)).2 hb, e4, (fb_ot st (by omega) s' (fb_512 (by omega) hs')).2 hb']
/-- the class counts to 255 -/
def fr_cp (v : Nat) : Nat := min v 255
/-- what the router holds: the rows, ready for a search -/
def fr_K (np t D st mk kl : Nat) (A : fr_A) (c4 c5 c10 m9 : Int32) (r19 r47 r48 : Nat → Int32) : Prop := (np ≤ 9 ∧ st < np ∧ 1 ≤ D ∧ D ≤ 21 ∧ t + D ≤ 200 ∧ mk < 600 ∧ A.1 = np ∧ 2 ^ (np - 1) * np * 21 ≤ kl ∧ kl < 2 ^ 31) ∧ (c4 = nI (D - 1) ∧ c5 = nI st ∧ c10 = nI mk ∧ m9 = nI np) ∧ (∀ k, k < D → ∀ p q, p < 9 → q < 9 → ∃ w y, w < 49 ∧ y < 5 ∧ r19 (9 * p + q) = nI w ∧ r47 k = nI y ∧ A.2.2.2.2 p q k = if w * (4 + y) / 4 ≤ 16 then w * (4 + y) / 4 else 0) ∧ (∀ k p, k < D → p < np → r48 (9 * k + p) = nI (fr_x A (D - k) k p (A.2.2.1 p)) - 1) ∧ ∀ p q k, A.2.2.2.2 p q k ≤ 16
abbrev fr_Kc (np t D st mk kl : Nat) (A : fr_A) (M : Nat → Nat → Int32) : Prop := fr_K np t D st mk kl A (M 45 4) (M 45 5) (M 45 10) (M 9 0) (M 19) (M 47) (M 48)
/-- what is known is right -/
def fr_M (np D st mk kl : Nat) (A : fr_A) (g : Nat → Int32) : Prop := (∀ j, j < kl → ∃ a, a ≤ mk ∧ fr_bA (g j) = nI a) ∧ ∀ i p s, i < D → p < np → s < 2 ^ np → s.testBit st = true → fr_bA (g (fr_sl np st i p s)) = nI mk → (fr_bB (g (fr_sl np st i p s)) = 254 ∨ fr_bB (g (fr_sl np st i p s)) = nI (fr_cp (fr_E A (D - 1 - i) i p s))) ∧ (fr_bC (g (fr_sl np st i p s)) = 254 ∨ fr_bC (g (fr_sl np st i p s)) = nI (fr_cp (fr_R A (D - 1 - i) i p s (A.2.2.1 p))))
def fr_N (mk : Nat) (g g' : Nat → Int32) : Prop := ∀ j, fr_bA (g j) = nI mk → fr_bA (g' j) = nI mk
theorem fr_N.trans {mk : Nat} {g g' g'' : Nat → Int32} (h : fr_N mk g g') (h' : fr_N mk g' g'') : fr_N mk g g'' := fun j hj => h' j (h j hj)
/-- a slot is made ready -/
theorem fw_56 {d : Nat} {al : Nat × Nat} {np t D st mk kl i p s : Nat} {A : fr_A} {M : Nat → Nat → Int32} (hK : fr_Kc np t D st mk kl A M) (hi : i < D) (hp : p < np) (hs : s < 2 ^ np) (g : Nat → Int32) (hM : fr_M np D st mk kl A g) {v4 v5 v6 : Value} : ∃ g' : Nat → Int32, ai_run d 56 0 [.ref 45, .int (nI i), .int (nI p), .int (nI s), v4, v5, v6] [] (hC al kl (fn_rw M 49 g)) = some (.inl (some (.int (nI (fr_sl np st i p s)))), hC al kl (fn_rw M 49 g')) ∧ fr_M np D st mk kl A g' ∧ fr_N mk g g' ∧ fr_bA (g' (fr_sl np st i p s)) = nI mk := by
  obtain ⟨⟨k1, k2, k3, k4, k5, k6, k7, k8, k9⟩, ⟨c1, c2, c3, c4⟩, -⟩ := id hK
  have h512 := fb_512 k1 hs
  have hsl := fr_sl_lt (i := i) (show np < 10 by omega) k2 (by omega) hp hs
  have e : ((((((nI s &&& (((1 : Int32) <<< (nI st &&& 31)) - (1 : Int32))) ||| ((nI s >>> ((nI st + (1 : Int32)) &&& 31)) <<< (nI st &&& 31))) * nI np) + nI p) * (21 : Int32)) + nI i) = nI (fr_sl np st i p s) := by
    rw [(fb_ot st (by omega) s h512).1, pk_mul, nI_add, show (21 : Int32) = nI 21 from rfl, pk_mul, nI_add]
    rfl
  have y0 := fb_y0 mk k6
  rw [bq_56_0, show (fn_rw M 49 g) 45 5 = nI st from c2, show (fn_rw M 49 g) 9 0 = nI np from c4, e, if_neg (nI_pos (by omega)), if_pos (show nI (fr_sl np st i p s) < Int32.ofNat kl from nI_lt (by omega) (by omega)), bq_56_2, show (fn_rw M 49 g) 45 10 = nI mk from c3, fi_in (by omega), decide_eq_true (by omega), cond_true, cond_true, nI_clamp (by omega)]
  by_cases hA : fr_bA (g (fr_sl np st i p s)) = nI mk
  · refine ⟨g, ?_, hM, fun j hj => hj, hA⟩
    rw [if_pos (show ((fn_rw M 49 g 49 (fr_sl np st i p s)).toUInt32 >>> (Int32.toUInt32 16 &&& Int32.toUInt32 31)).toInt32 = nI mk from hA), bq_56_3]
  · refine ⟨upd g (fr_sl np st i p s) (((nI mk <<< ((16 : Int32) &&& 31)) ||| (65024 : Int32)) ||| (254 : Int32)), ?_, ⟨fun j hj => ?_, fun i' p' s' hi' hp' hs' hb' hA' => ?_⟩, fun j hj => ?_, ?_⟩
    · rw [if_neg (show ¬ ((fn_rw M 49 g 49 (fr_sl np st i p s)).toUInt32 >>> (Int32.toUInt32 16 &&& Int32.toUInt32 31)).toInt32 = nI mk from hA), bq_56_3, fn_rw_up]
    · by_cases hjs : j = fr_sl np st i p s
      · rw [hjs, pk_us]; exact ⟨mk, Nat.le_refl _, y0.1⟩
      · rw [pk_un hjs]; exact hM.1 j hj
    · by_cases hjs : fr_sl np st i' p' s' = fr_sl np st i p s
      · rw [hjs, pk_us]; exact ⟨Or.inl y0.2.1, Or.inl y0.2.2⟩
      · rw [pk_un hjs] at hA' ⊢; exact hM.2 i' p' s' hi' hp' hs' hb' hA'
    · by_cases hjs : j = fr_sl np st i p s
      · rw [hjs, pk_us]; exact y0.1
      · rw [pk_un hjs]; exact hj
    · rw [pk_us]; exact y0.1
/-- something more is known -/
theorem fr_M.put1 {np D st mk kl i p s : Nat} {A : fr_A} {g : Nat → Int32} (hM : fr_M np D st mk kl A g) (hn : np ≤ 9) (hD : D ≤ 21) (hst : st < np) (hi : i < D) (hp : p < np) (hs : s < 2 ^ np) (hb : s.testBit st = true) (hA : fr_bA (g (fr_sl np st i p s)) = nI mk) : fr_M np D st mk kl A (upd g (fr_sl np st i p s) ((g (fr_sl np st i p s) &&& (-65281 : Int32)) ||| (nI (fr_cp (fr_E A (D - 1 - i) i p s)) <<< ((8 : Int32) &&& 31)))) ∧ fr_N mk g (upd g (fr_sl np st i p s) ((g (fr_sl np st i p s) &&& (-65281 : Int32)) ||| (nI (fr_cp (fr_E A (D - 1 - i) i p s)) <<< ((8 : Int32) &&& 31)))) := by
  have y1 := fb_y1 (x := g (fr_sl np st i p s)) (v := fr_cp (fr_E A (D - 1 - i) i p s)) (by unfold fr_cp; omega)
  refine ⟨⟨fun j hj => ?_, fun i' p' s' hi' hp' hs' hb' hA' => ?_⟩, fun j hj => ?_⟩
  · by_cases hjs : j = fr_sl np st i p s
    · rw [hjs, pk_us]; exact ⟨mk, Nat.le_refl _, y1.1.trans hA⟩
    · rw [pk_un hjs]; exact hM.1 j hj
  · by_cases hjs : fr_sl np st i' p' s' = fr_sl np st i p s
    · obtain ⟨e1, e2, e3⟩ := fr_sl_inj (by omega) hst (by omega) hp' hs' hb' (by omega) hp hs hb hjs
      subst e1 e2 e3
      rw [pk_us]
      refine ⟨Or.inr y1.2.1, ?_⟩
      rw [y1.2.2]
      exact (hM.2 i' p' s' hi' hp' hs' hb' hA).2
    · rw [pk_un hjs] at hA' ⊢; exact hM.2 i' p' s' hi' hp' hs' hb' hA'
  · by_cases hjs : j = fr_sl np st i p s
    · rw [hjs, pk_us]; exact y1.1.trans hA
    · rw [pk_un hjs]; exact hj
theorem fr_M.put2 {np D st mk kl i p s : Nat} {A : fr_A} {g : Nat → Int32} (hM : fr_M np D st mk kl A g) (hn : np ≤ 9) (hD : D ≤ 21) (hst : st < np) (hi : i < D) (hp : p < np) (hs : s < 2 ^ np) (hb : s.testBit st = true) (hA : fr_bA (g (fr_sl np st i p s)) = nI mk) : fr_M np D st mk kl A (upd g (fr_sl np st i p s) ((g (fr_sl np st i p s) &&& (-256 : Int32)) ||| nI (fr_cp (fr_R A (D - 1 - i) i p s (A.2.2.1 p))))) ∧ fr_N mk g (upd g (fr_sl np st i p s) ((g (fr_sl np st i p s) &&& (-256 : Int32)) ||| nI (fr_cp (fr_R A (D - 1 - i) i p s (A.2.2.1 p))))) := by
  have y2 := fb_y2 (x := g (fr_sl np st i p s)) (v := fr_cp (fr_R A (D - 1 - i) i p s (A.2.2.1 p))) (by unfold fr_cp; omega)
  refine ⟨⟨fun j hj => ?_, fun i' p' s' hi' hp' hs' hb' hA' => ?_⟩, fun j hj => ?_⟩
  · by_cases hjs : j = fr_sl np st i p s
    · rw [hjs, pk_us]; exact ⟨mk, Nat.le_refl _, y2.1.trans hA⟩
    · rw [pk_un hjs]; exact hM.1 j hj
  · by_cases hjs : fr_sl np st i' p' s' = fr_sl np st i p s
    · obtain ⟨e1, e2, e3⟩ := fr_sl_inj (by omega) hst (by omega) hp' hs' hb' (by omega) hp hs hb hjs
      subst e1 e2 e3
      rw [pk_us]
      refine ⟨?_, Or.inr y2.2.2⟩
      rw [y2.2.1]
      exact (hM.2 i' p' s' hi' hp' hs' hb' hA).1
    · rw [pk_un hjs] at hA' ⊢; exact hM.2 i' p' s' hi' hp' hs' hb' hA'
  · by_cases hjs : j = fr_sl np st i p s
    · rw [hjs, pk_us]; exact y2.1.trans hA
    · rw [pk_un hjs]; exact hj
