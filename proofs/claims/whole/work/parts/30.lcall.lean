/-! the law's calls: one of two worlds is called, the other stands by -/
set_option maxHeartbeats 4000000 in
theorem ai_run_174 {l : Launch} {d : Nat} {vs : List Value} {h : ai_Hp} {r : (Option Value ⊕ Nat) × ai_Hp} (hr : ai_run d 174 0 (ai_ent (ai_mx 174) vs) [] h = some r) (D : va_G) (cs : ClassId × ClassId × ClassId) (ad adV lo : Nat → Nat) (sz : Nat) : MetFree l (ai_y 174) (headSpec (Cond.codeWith (ai_y 174) (ai_bts 174) (ai_mx 174) (ai_ret 174) [(50, 54, 57, 86)] :: ai_tb) (ai_rm d h r)) (ai_Pc D cs ad adV lo h vs sz) (fun _ _ _ _ _ => True) (fun a st o t => ai_Qc D cs ad lo h r (va_A (ai_w cs lo h) sz) a st o t ∧ ai_Qf st t (r.2.1.1 - h.1.1) (r.2.1.2 - h.1.2) (va_A (ai_w cs lo h) sz)) := by
  obtain ⟨n, hn⟩ := ai_run_iff.mp hr
  have hm := (ai_ex_po n hn).1
  refine MetFree.of_bodySF (code := ai_bts 174) (maxLocals := ai_mx 174) (ret := ai_ret 174) (by decide +kernel) ?_ ?_
  · intro args s m h hn
    obtain ⟨m2, meth, c, h0, h1, h2, h3, h4, -, h5, h6, -⟩ := Cond.codeWith_spec (atoms_spec h _ List.mem_cons_self)
    cases hn.symm.trans h0
    exact ⟨meth, c, h1, h2, h3, h4, h5, h6⟩
  · intro p e s m args below meth c s₁ B hml hP _
    obtain ⟨rfl, hsz, hPw, hDw, hok, hSta⟩ := hP
    subst hsz
    have hts := atoms_spec B.pre
    have hh0 : s₁.heap = s.heap := by rw [B.state]; rfl
    obtain ⟨m2, meth2, c2, h0, h1, h2, -, -, hexc, -, -, -⟩ := Cond.codeWith_spec (hts _ List.mem_cons_self)
    cases B.named.symm.trans h0
    cases B.method.symm.trans h1
    cases (Stand.of_body B).code.symm.trans h2
    have hF : ai_Fin (p, l, e, ai_rm d h r, s, m, (vs.map (ai_tv lo (ai_skk ad))).toArray, below, meth, c) (D, cs, ad, adV, va_A (ai_w cs lo h) s.heap.size, h, lo, r, r.2.1.1 - h.1.1, r.2.1.2 - h.1.2, fun t => ∃ o, t.status = .running ∧ Ended t below o ∧ ai_Qc D cs ad lo h r (va_A (ai_w cs lo h) s.heap.size) (vs.map (ai_tv lo (ai_skk ad))).toArray s o t ∧ ai_Qf s t (r.2.1.1 - h.1.1) (r.2.1.2 - h.1.2) (va_A (ai_w cs lo h) s.heap.size)) :=
      fun t o lo1 Ls k1 k2 k3 k4 k5 k6 k7 k8 k9 k10 k11 => ⟨o, k1, k2, ⟨⟨lo1, k3, k4, k5, k6, k7⟩, k8⟩, Ls, k9, k10, k11⟩
    have hCx : ai_Cx 174 d (p, l, e, ai_rm d h r, s, m, (vs.map (ai_tv lo (ai_skk ad))).toArray, below, meth, c) (D, cs, ad, adV, va_A (ai_w cs lo h) s.heap.size, h, lo, r, r.2.1.1 - h.1.1, r.2.1.2 - h.1.2, fun t => ∃ o, t.status = .running ∧ Ended t below o ∧ ai_Qc D cs ad lo h r (va_A (ai_w cs lo h) s.heap.size) (vs.map (ai_tv lo (ai_skk ad))).toArray s o t ∧ ai_Qf s t (r.2.1.1 - h.1.1) (r.2.1.2 - h.1.2) (va_A (ai_w cs lo h) s.heap.size)) :=
      ⟨⟨B.exec, B.bytes, B.returns, hml, findClass_of_methodNamed B.named, fun w hw => hts w (List.mem_cons_of_mem _ hw)⟩, ⟨B.notSynchronized, (name_of_methodNamed B.named B.method).1, fun q => absurd rfl q, fun _ => hexc⟩, hSta, ⟨Nat.le_refl _, Nat.le_refl _, Nat.le_refl _, Nat.le_refl _⟩, fun q hq => Or.inr hq, by decide⟩
    have hk1 := ai_ex_snd (l := l) ai_prim_con n (b := 0) (L := ai_ent (ai_mx 174) vs) (st := []) (h := h) _ _ rfl hCx hF hn lo _ s.heap [] 0 0 ⟨ai_entry vs (ai_mx 174), ⟨hPw, hDw.self, va_S.rf⟩, ⟨hok, ai_sm.rf⟩, by omega, by omega⟩
    rw [show ai_pc 174 0 = 0 by decide +kernel] at hk1
    obtain ⟨t, a1, o, b1, b2, b3⟩ := hk1 s₁ hh0 (Stand.of_body B)
    refine ⟨t, o, ?_, b1, b2, b3⟩
    rw [lg_entry_eq]
    exact a1
/-- what the law needs of a method: a word that tells its code, a contract -/
def lw_Can (l : Launch) (d mi : Nat) (vs : List Value) (h : ai_Hp) (r : (Option Value ⊕ Nat) × ai_Hp) : Prop := (h.1.1 ≤ r.2.1.1 ∧ h.1.2 ≤ r.2.1.2) ∧ ∃ w : Cond, w ∈ lw_tbl ∧ (∀ (s U : State) (a a' : Array Value), s.WarmedH U.vm → w.before a s = true → w.before a' U = true) ∧ (∀ (U : State) (a : Array Value), w.before a U = true → ∃ mk meth cY, U.methodNamed? (ai_y mi) = some mk ∧ U.vm.method? mk = some meth ∧ meth.code = some cY ∧ cY.maxLocals ≤ 16 ∧ parseMethodDescriptor (ai_y mi).desc = some meth.sig) ∧ ∀ (D : va_G) (cs : ClassId × ClassId × ClassId) (ad adV lo : Nat → Nat) (sz : Nat), MetFree l (ai_y mi) (headSpec (w :: ai_tb) (ai_rm d h r)) (ai_Pc D cs ad adV lo h vs sz) (fun _ _ _ _ _ => True) (fun a st o t => ai_Qc D cs ad lo h r (va_A (ai_w cs lo h) sz) a st o t ∧ ai_Qf st t (r.2.1.1 - h.1.1) (r.2.1.2 - h.1.2) (va_A (ai_w cs lo h) sz))
theorem lw_can {l : Launch} {d mi : Nat} {vs : List Value} {h : ai_Hp} {r : (Option Value ⊕ Nat) × ai_Hp} (hmi : mi < 216) (hr : ai_run d mi 0 (ai_ent (ai_mx mi) vs) [] h = some r) : lw_Can l d mi vs h r := by
  have hm : h.1.1 ≤ r.2.1.1 ∧ h.1.2 ≤ r.2.1.2 := by
    obtain ⟨n, hn⟩ := ai_run_iff.mp hr
    exact (ai_ex_po n hn).1
  refine ⟨hm, ?_⟩
  by_cases h174 : mi = 174
  · subst h174
    refine ⟨_, ai_cd_174, fun s U a a' hW hb => ?_, fun U a hb => ?_, fun D cs ad adV lo sz => ai_run_174 hr D cs ad adV lo sz⟩
    · exact word_at hW (Or.inl (by first | rfl | simp [Cond.onTables, Cond.keeps, Cond.steady])) hb
    · obtain ⟨mk, meth, c, h0, h1, h2, -, h4, -, -, -, h7⟩ := Cond.codeWith_spec hb
      exact ⟨mk, meth, c, h0, h1, h2, by rw [h4]; decide, h7⟩
  · obtain ⟨bytes, maxL, ret, hcw, hmx, -, hMet⟩ := ai_run_con (l := l) hmi h174 hr
    have hw := (List.mem_filter.mp hcw)
    refine ⟨_, hw.1, fun s U a a' hW hb => word_at hW (good_of_word hw.2) hb, fun U a hb => ?_, fun D cs ad adV lo sz => hMet D cs ad adV lo sz⟩
    obtain ⟨mk, hn⟩ := Cond.code_named hb
    obtain ⟨meth, c, h1, h2, -, h4, -, -, -, h8⟩ := Cond.code_spec hn hb
    exact ⟨mk, meth, c, hn, h1, h2, by rw [h4]; exact hmx, h8⟩
