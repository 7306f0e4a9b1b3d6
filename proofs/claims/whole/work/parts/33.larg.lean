/-! the law's arguments -/
/-- what an argument is -/
def lw_v (f : Nat → Int32) (a : Nat × Bool) : Int32 := bif a.2 then (if f a.1 = 0 then 0 else 1) else f a.1
section LAR
variable {p : Program} {l : Launch} {e : Env} {R : Room} {s : State} {m : MethodId} {args : Array Value} {below : List Frame} {meth : Method} {c : Code} {H : Heap} {locs : List Loc} {cells slots : Nat} {Q : State → Prop} {A : Nat → Prop} {b L i : Nat} {xs : Nat → Int32} {ls : Array Slot}
theorem lw_arg (hx : p.tables.exec = Jvm.exec) (hb : c.code = code) (hX : va_X b L xs s s.heap) (hbl : b < s.heap.size) (hbA : ¬ A b) (hS : va_S A s.heap H locs) (hl0 : ls[0]? = some (.val (.ref b))) (hl3 : ls[3]? = some (.val (.int (nI i)))) (hi : i + 6 ≤ L) (hL : L ≤ 3072) {pc j : Nat} {rest : List Value} (hj : j < 6) (h1 : lw_d pc (.aload_n 0) 1 = true) (h2 : lw_d (pc + 1) (.iload_n 3) 1 = true) (h3 : lw_d (pc + 2) (.iconst (j : Int)) 1 = true) (h4 : lw_d (pc + 3) .iadd 1 = true) (h5 : lw_d (pc + 4) .iaload 1 = true)
    (k : W p l e R s m args below meth c H locs cells slots Q (F0 m (pc + 5) ls (.int (xs (i + j)) :: rest))) : W p l e R s m args below meth c H locs cells slots Q (F0 m pc ls rest) := by
  refine lv_aload_n hx hb (lw_dd h1) rfl hl0 ?_
  refine lv_iload_n hx hb (lw_dd h2) rfl hl3 ?_
  refine lv_iconst (v := nI j) hx hb (lw_dd h3) (by rcases (show j = 0 ∨ j = 1 ∨ j = 2 ∨ j = 3 ∨ j = 4 ∨ j = 5 by omega) with rfl | rfl | rfl | rfl | rfl | rfl <;> decide) ?_
  refine lv_iadd hx hb (lw_dd h4) ?_
  rw [nI_add]
  refine va_sld hx hb hX hbl hbA hS (vp_in_nI (show i + j < L by omega) (by omega)) (lw_dd h5) ?_
  rw [nI_clamp (by omega)]
  exact k
theorem lw_args (hx : p.tables.exec = Jvm.exec) (hb : c.code = code) (hX : va_X b L xs s s.heap) (hbl : b < s.heap.size) (hbA : ¬ A b) (hS : va_S A s.heap H locs) (hl0 : ls[0]? = some (.val (.ref b))) (hl3 : ls[3]? = some (.val (.int (nI i)))) (hi : i + 6 ≤ L) (hL : L ≤ 3072) : ∀ (as : List (Nat × Bool)) (pc : Nat) (rest : List Value), lw_ckA pc as = true → W p l e R s m args below meth c H locs cells slots Q (F0 m (pc + lw_lnA as) ls ((as.map (fun a => Value.int (lw_v (fun j => xs (i + j)) a))).reverse ++ rest)) → W p l e R s m args below meth c H locs cells slots Q (F0 m pc ls rest) := by
  intro as
  induction as with
  | nil => intro pc rest _ k; exact k
  | cons a as ih =>
    intro pc rest hc k
    obtain ⟨j, bb⟩ := a
    cases bb with
    | false =>
      simp only [lw_ckA, Bool.and_eq_true, cond_false] at hc
      obtain ⟨⟨h1, h2, h3, h4, h5, h6⟩, h7⟩ := hc
      refine lw_arg hx hb hX hbl hbA hS hl0 hl3 hi hL (Nat.blt_eq.mp h6) h1 h2 h3 h4 h5 ?_
      refine ih (pc + 5) _ h7 ?_
      have e1 : pc + lw_lnA ((j, false) :: as) = pc + 5 + lw_lnA as := by simp only [lw_lnA, cond_false]; omega
      rw [e1] at k
      simpa [lw_v] using k
    | true =>
      simp only [lw_ckA, Bool.and_eq_true, cond_true] at hc
      obtain ⟨⟨h1, h2, h3, h4, h5, h6⟩, ⟨h8, h9, h10, h11⟩, h7⟩ := hc
      refine lw_arg hx hb hX hbl hbA hS hl0 hl3 hi hL (Nat.blt_eq.mp h6) h1 h2 h3 h4 h5 ?_
      have e1 : pc + lw_lnA ((j, true) :: as) = pc + 13 + lw_lnA as := by simp only [lw_lnA, cond_true]; omega
      rw [e1] at k
      have key : W p l e R s m args below meth c H locs cells slots Q (F0 m (pc + 13) ls (.int (lw_v (fun j => xs (i + j)) (j, true)) :: rest)) := by
        refine ih (pc + 13) _ h7 ?_
        simpa using k
      refine lv_if_eq (tgt := pc + 12) hx hb (lw_dd h8) (by omega) (fun hz => ?_) (fun hz => ?_)
      · refine lv_iconst (v := 0) hx hb (lw_dd h11) (by decide) ?_
        have e2 : lw_v (fun j => xs (i + j)) (j, true) = 0 := by simp [lw_v, hz]
        rw [e2] at key
        exact key
      · refine lv_iconst (v := 1) hx hb (lw_dd h9) (by decide) ?_
        refine lv_goto (tgt := pc + 13) hx hb (lw_dd h10) (by omega) ?_
        have e2 : lw_v (fun j => xs (i + j)) (j, true) = 1 := by simp [lw_v, hz]
        rw [e2] at key
        exact key
end LAR
