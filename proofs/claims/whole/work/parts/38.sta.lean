/-! the fixed things exist -/
theorem lx_D {s : State} {args : Array Value} (hts : ∀ w ∈ lw_tbl, w.before args s = true) : ∃ D : va_G, ∀ (c : Nat) (q : vw_C), ai_cl[c]? = some q → u_Kn s q.1 q.2.1 q.2.2 (D.1 c) (D.2 c) := by
  have h0 : ∀ c : Nat, ∃ x : ClassId × (Nat → Nat), ∀ q : vw_C, ai_cl[c]? = some q → u_Kn s q.1 q.2.1 q.2.2 x.1 x.2 := by
    intro c
    cases hc : ai_cl[c]? with
    | none => exact ⟨(0, fun _ => 0), fun q h => by cases h⟩
    | some r =>
      have hm : r ∈ ai_cl := List.mem_of_getElem? hc
      have hi := of_decide_eq_true (List.all_eq_true.mp lx_ok4 r hm)
      obtain ⟨cC, iS, h⟩ := u_known hts (fun w hw => (ai_cl_in r hm w hw).1) (hts _ hi)
      exact ⟨(cC, iS), fun q e => by cases e; exact h⟩
  obtain ⟨f, hf⟩ := Classical.axiomOfChoice h0
  exact ⟨(fun c => (f c).1, fun c => (f c).2), fun c q h => hf c q h⟩
theorem lx_ar {s : State} {args : Array Value} {ty : FieldType} (h : (Cond.arrayClass ty).before args s = true) : ∃ cA : ClassId, ArrOfT s cA ty ∧ s.vm.findClass ("[" ++ ty.toString) = some cA := by
  obtain ⟨c, k, comp, f1, f2, f3⟩ := Cond.arrayClass_spec h
  exact ⟨c, fun N z => ⟨(fun k h => by cases h), k, f2, comp, f3⟩, f1⟩
theorem lx_cs {s : State} {args : Array Value} (hts : ∀ w ∈ lw_tbl, w.before args s = true) : ∃ cs : ClassId × ClassId × ClassId, ∀ (k : Nat) (q : ClassId × FieldType), (ai_tys cs)[k]? = some q → ArrOfT s q.1 q.2 ∧ va_RA s q.1 q.2 := by
  obtain ⟨c1, a1, b1⟩ := lx_ar (hts _ (lx_ok5 (.arrayClass .int) (by decide +kernel)))
  obtain ⟨c2, a2, b2⟩ := lx_ar (hts _ (lx_ok5 (.arrayClass .byte) (by decide +kernel)))
  obtain ⟨c3, a3, b3⟩ := lx_ar (hts _ (lx_ok5 (.arrayClass .boolean) (by decide +kernel)))
  refine ⟨(c1, c2, c3), fun k q h => ?_⟩
  match k, h with
  | 0, h => cases h; exact ⟨a1, b1⟩
  | 1, h => cases h; exact ⟨a2, b2⟩
  | 2, h => cases h; exact ⟨a3, b3⟩
  | n + 3, h => cases h
theorem lx_Ns {s : State} {args : Array Value} (hts : ∀ w ∈ lw_tbl, w.before args s = true) : ai_Ns s := by
  intro w hw
  have key : ∀ (i : Nat), ai_wan w i = true → va_Nw w s := by
    intro i h
    have h2 := Bool.and_eq_true_iff.mp h
    exact va_Nw.of h2.2 (hts w (List.mem_of_getElem? (of_decide_eq_true h2.1)))
  rcases List.mem_append.mp hw with h | h
  · obtain ⟨r, hr, e⟩ := List.mem_map.mp h
    have hr2 := List.mem_filter.mp hr
    have h3 := List.all_eq_true.mp ai_flt_ok r hr2.1
    rw [hr2.2] at h3
    rw [← e] at key ⊢
    exact key _ h3
  · obtain ⟨r, hr, e⟩ := List.mem_map.mp h
    have hr2 := List.mem_filter.mp hr
    have h3 := List.all_eq_true.mp ai_mlt_ok r hr2.1
    rw [hr2.2] at h3
    have h4 := (Bool.and_eq_true_iff.mp h3).1
    rw [← e] at key ⊢
    exact key _ h4
theorem lx_str {s : State} {args : Array Value} {A : Nat → Prop} (hts : ∀ w ∈ lw_tbl, w.before args s = true) (hgv : ∀ w ∈ lx_gv, w.before args s = true) (hA : ∀ a : Nat, a < s.heap.size → ¬ A a) : ∃ ad adV : Nat → Nat, ai_SR ad s ∧ vk_S 10 ai_lns ai_byt ad adV A s s.heap := by
  have hk : ∀ i : Nat, i < 10 → lx_w1 i ∈ lx_gv ∧ lx_w2 i ∈ lx_gv ∧ lx_w3 i ∈ lx_gv ∧ lx_w4 i ∈ lx_gv ∧ ∀ j : Nat, j < ai_lns.getD i 0 → lx_w5 i j ∈ lx_gv := by
    intro i hi
    have h := List.all_eq_true.mp lx_ok1 i (List.mem_range.mpr hi)
    simp only [Bool.and_eq_true, decide_eq_true_eq, List.all_eq_true] at h
    exact ⟨h.1, h.2.1, h.2.2.1, h.2.2.2.1, fun j hj => h.2.2.2.2 j (List.mem_range.mpr hj)⟩
  have hn : ∀ i j : Nat, i < 10 → j < 10 → i ≠ j → lx_w6 i j ∈ lx_gv ∨ lx_w6 j i ∈ lx_gv := by
    intro i j hi hj hij
    have h := List.all_eq_true.mp (List.all_eq_true.mp lx_ok2 i (List.mem_range.mpr hi)) j (List.mem_range.mpr hj)
    simp only [Bool.or_eq_true, decide_eq_true_eq] at h
    exact h.resolve_left hij
  have hl : ∀ i : Nat, i < 10 → ai_lns.getD i 0 < 2 ^ 31 := by decide
  obtain ⟨ad, adV, hS, he⟩ := vk_Sof (args := args) (s := s) (N := 10) (tm := lx_tm) (len := ai_lns) (byt := ai_byt) (A := A) hl (fun i hi => hgv _ (hk i hi).1) (fun i hi => hgv _ (hk i hi).2.1) (fun i hi => hgv _ (hk i hi).2.2.1) (fun i hi => hgv _ (hk i hi).2.2.2.1) (fun i hi j hj => hgv _ ((hk i hi).2.2.2.2 j hj)) (fun i j hi hj hij => (hn i j hi hj hij).imp (hgv _) (hgv _)) hA
  refine ⟨ad, adV, ?_, hS⟩
  intro j r hj
  have hm : r ∈ ai_stk := List.mem_of_getElem? hj
  have h3 := List.all_eq_true.mp lx_ok3 r hm
  simp only [Bool.and_eq_true, Bool.or_eq_true, decide_eq_true_eq] at h3
  have h4 := of_decide_eq_true (List.all_eq_true.mp ai_stk_ok r hm)
  have hw := hts _ (List.mem_of_getElem? h4)
  have e : ai_skk ad j = ad r.2.2.1 := by
    unfold ai_skk
    rw [hj]
    rfl
  rw [e]
  have h5 := he r.2.2.1 h3.1
  refine vk_R.of (A := args) hw ?_
  rcases h3.2 with h | h
  · rw [h]; exact h5
  · exact va_eqR (hgv _ h) h5
theorem lx_Z {s : State} {args : Array Value} {A : Nat → Prop} (hts : ∀ w ∈ lw_tbl, w.before args s = true) (hgv : ∀ w ∈ lx_gv, w.before args s = true) (hA : ∀ a : Nat, a < s.heap.size → ¬ A a) : ai_Zs A s s.heap := by
  have t := fun w h => hts w (lx_ok5 w h)
  have g := fun w h => hgv w (lx_ok6 w h)
  simp only [List.forall_mem_cons] at t g
  exact ⟨va_Zof t.2.2.2.1 t.2.2.2.2.1 (va_eqi g.1) hA, va_Zqof t.2.2.2.2.2.1 t.2.2.2.2.2.2.1 g.2.1 hA, va_Zqof t.2.2.2.2.2.2.2.1 t.2.2.2.2.2.2.1 g.2.2.1 hA, va_Zqof t.2.2.2.2.2.2.2.2.1 t.2.2.2.2.2.2.2.2.2.1 g.2.2.2.1 hA⟩
theorem lx_Sta {p : Program} {s : State} {m : MethodId} {meth : Method} {c : Code} {b L : Nat} {xs : Nat → Int32} (C0 : lw_At p s m meth c b L xs) : ∃ (D : va_G) (cs : ClassId × ClassId × ClassId) (ad adV : Nat → Nat), ai_Sta D cs ad adV (fun q => s.heap.size ≤ q) s := by
  obtain ⟨hx, hb, hr, hml, hown, hts, hX, hbl, hlocks, hgv0⟩ := id C0
  have hgv : ∀ w ∈ lx_gv, w.before #[Value.ref b] s = true := flat_of_before _ hgv0
  have hA : ∀ a : Nat, a < s.heap.size → ¬ (fun q : Nat => s.heap.size ≤ q) a := fun a h => Nat.not_le.mpr h
  obtain ⟨D, hD⟩ := lx_D hts
  obtain ⟨cs, hcs⟩ := lx_cs hts
  obtain ⟨ad, adV, h1, h2⟩ := lx_str hts hgv hA
  exact ⟨D, cs, ad, adV, ⟨hD, hcs⟩, lx_Ns hts, h1, h2, lx_Z hts hgv hA⟩
