/-! the law's call of a method, and two worlds side by side -/
theorem lw_loc {d a b x y z : Nat} (h1 : 2 * a + b ≤ 8) (h2 : x ≤ 16) (hy : y = 60 * d + 400) (h3 : 60 * d + 435 ≤ z) : 2 * a + b + (x + 11) + y ≤ z := by omega
theorem lw_rml (d : Nat) (h : ai_Hp) (r : (Option Value ⊕ Nat) × ai_Hp) : (ai_rm d h r).locals = 60 * d + 400 := rfl
section LRN
variable {p : Program} {l : Launch} {e : Env} {R : Room} {s : State} {m : MethodId} {args : Array Value} {below : List Frame} {meth : Method} {c : Code} {H : Heap} {locs : List Loc} {cells slots : Nat} {Q : State → Prop}
set_option maxHeartbeats 1000000 in
theorem lw_runV {cc : ByteArray} {nL d mi index : Nat} {own : String} {vs As rest : List Value} {h h1 : ai_Hp} {v : Option Value} {D : va_G} {cs : ClassId × ClassId × ClassId} {ad adV lo : Nat → Nat} {b : Addr} {g : JFrame} (hx : p.tables.exec = Jvm.exec) (hb : c.code = cc) (hml : c.maxLocals = nL) (hown : s.vm.findClass own = some m.cls) (hts : ∀ w ∈ lw_tbl, w.before args s = true) (hC : lw_Can l d mi vs h (.inl v, h1))
    (hlink : Cond.methodLink own index (ai_y mi) ∈ lw_tbl) (hin : Cond.instanceMethod (ai_y mi) ∈ lw_tbl) (hsel : Cond.selects (ai_y mi).cls (ai_y mi) (ai_y mi) ∈ lw_tbl) (hini : Cond.initialized (ai_y mi).cls ∈ lw_tbl) (hy : (ai_y mi).cls ≠ "java/lang/invoke/MethodHandle" ∧ (ai_y mi).cls ≠ "java/lang/invoke/VarHandle") (hlen : (parseMethodDescriptor (ai_y mi).desc).map (fun d => d.parameters.length) = some As.length)
    (hcell : ∃ cellB : Cell, H[b]? = some cellB ∧ cellB.vm.isStatics = false ∧ s.vm.findClass (ai_y mi).cls = some cellB.cls) (hPc : ∀ U : State, U.heap = H → s.WarmedH U.vm → ai_Pc D cs ad adV lo h vs H.size (Value.ref b :: As).toArray U)
    (hfr : d + 11 ≤ R.frames) (hlo : 60 * d + 435 ≤ R.locals) (hf : cells + (h1.1.1 - h.1.1) ≤ R.cells ∧ slots + (h1.1.2 - h.1.2) ≤ R.slots) (hg : g.method = m) (hsize : g.locals.size = nL) (hstack : g.stack = As.reverse ++ .ref b :: rest) (hW : 2 * g.monitorRoom + (rest.map fun v => v.category).sum ≤ 8) (hdg : decode cc g.pc = .ok (.invokevirtual index, 3)) :
    va_Run p l e R s m args below meth c H locs cells slots (h1.1.1 - h.1.1) (h1.1.2 - h.1.2) g rest (ai_Qc D cs ad lo h (.inl v, h1) (va_A (ai_w cs lo h) H.size) (Value.ref b :: As).toArray) (va_A (ai_w cs lo h) H.size) := by
  obtain ⟨-, w, hw1, hw2, hw3, hMet⟩ := hC
  have hM := hMet D cs ad adV lo H.size
  have hww : ∀ (a' : Array Value) (U : State), s.WarmedH U.vm → w.before a' U = true := fun a' U hW => hw2 s U args a' hW (hts w hw1)
  have hws : ∀ w' ∈ w :: ai_tb, ∀ (a' : Array Value) (U : State), s.WarmedH U.vm → w'.before a' U = true := by
    intro w' hw' a' U hW
    rcases List.mem_cons.mp hw' with rfl | hw'
    · exact hww a' U hW
    · exact word_at hW (ai_tb_good w' hw').2 (hts w' (List.mem_filter.mp hw').1)
  obtain ⟨cellB, hcB, hoB, hclB⟩ := hcell
  intro T hT X
  obtain ⟨mk, methM, hnamed, hmethM, hstM, habM⟩ := Cond.instanceMethod_spec (hts _ hin)
  obtain ⟨mk', methM', cM, hn', hmethM', -, -, hsigM⟩ := hw3 s args (hts w hw1)
  cases hnamed.symm.trans hn'
  cases hmethM.symm.trans hmethM'
  obtain ⟨c2, r2, m2, q1, q2, q3, q4, kP, hkP, hkPi⟩ := Cond.selects_spec (hts _ hsel)
  cases hclB.symm.trans q1
  cases (State.methodFound?_of_named hnamed hy).symm.trans q2
  cases hnamed.symm.trans q3
  have hselP : selectMethod e.platform s.vm cellB.cls mk = .method mk := by rw [Launch.admits_selectMethod X.admits]; exact q4
  have hAl : As.length = methM.sig.parameters.length := by
    rw [hsigM] at hlen
    exact (Option.some.inj hlen).symm
  obtain ⟨vm₁, X₁, hstep₁⟩ := X.invokevirtual hx hown (hts _ hlink) hnamed hmethM hstM hkP hkPi hy (a := b) (cell := cellB) (by rw [hT]; exact hcB)
    (fun z h => by rw [h] at hoB; cases hoB) hselP hmethM habM hkP hkPi (g := g) hg (argsL := As) (rest := rest) hAl hstack (by rw [hb]; exact hdg)
  have hdg1 : decode c.code ({ g with stack := rest } : JFrame).pc = .ok (.invokevirtual index, 3) := by rw [hb]; exact hdg
  have hn1 := X₁.named hnamed
  obtain ⟨kY, hkY, -⟩ := className_of_methodNamed hn1
  have h3 : (Cond.initialized (ai_y mi).cls).before (Value.ref b :: As).toArray (T.setVm vm₁) = true := word_at X₁.warmed (Or.inl (by first | rfl | simp [Cond.onTables, Cond.keeps, Cond.steady])) (hts _ hini)
  have hinitY : kY.init = .initialized := Cond.initialized_spec (findClass_of_methodNamed hn1) hkY h3
  obtain ⟨mkY, methY, cY, hnY, hmY, hcY, hlY, -⟩ := hw3 (T.setVm vm₁) (Value.ref b :: As).toArray (hww _ _ X₁.warmed)
  cases hn1.symm.trans hnY
  have hAt : At (T.setVm vm₁) ({ g with stack := rest } : JFrame).method c below := by
    show At (T.setVm vm₁) g.method c below
    rw [hg]; exact X₁.here
  have hFr : (ai_rm d h (.inl v, h1)).frames + 1 ≤ R.frames := by dsimp only [ai_rm]; omega
  have hLo : 2 * ({ g with stack := rest } : JFrame).monitorRoom + (({ g with stack := rest } : JFrame).stack.map fun v => v.category).sum + (cY.maxLocals + 11) + (ai_rm d h (.inl v, h1)).locals ≤ R.locals := lw_loc hW hlY (lw_rml d h _) hlo
  have happ : (headSpec (w :: ai_tb) (ai_rm d h (.inl v, h1))).appliesLoose (ai_y mi) e.platform ((T.setVm vm₁).calling { g with stack := rest } mk (Value.ref b :: As).toArray) = true :=
    Spec.appliesLoose_calling (g := { g with stack := rest }) hAt hdg1 hn1 hkY hinitY
      (X₁.room_calling (g := { g with stack := rest }) (R' := ai_rm d h (.inl v, h1)) (hsize.trans hml.symm) hmY hcY hFr hLo hf.1 hf.2) (atoms_intro fun w hw => hws w hw _ _ X₁.warmed)
  obtain ⟨mid, hmid⟩ := hAt.above
  have hfr2 : ((T.setVm vm₁).setTop { g with stack := rest }).frames = (.java { g with stack := rest } :: mid) ++ below := by rw [State.frames_setTop' _ hAt.top, hmid]; rfl
  obtain ⟨o, s₂, hsteps, -, hend, hq, Ls, g5, g6, g7⟩ := Steps.callFree hM p X₁.admits X₁.cas X₁.clock (acts := []) hfr2 happ (ai_blind _ _ _ _ (hPc (T.setVm vm₁) hT X₁.warmed)) trivial
  obtain ⟨v1, rfl⟩ : ∃ v1, o = .returned v1 := by
    obtain ⟨⟨lo1, ho, -⟩, -⟩ := hq
    exact ⟨_, ho⟩
  rw [State.frames_setTop' _ hAt.top, X₁.tail] at hend
  obtain ⟨T1, X1, -, hsb, ht⟩ := X₁.outOf (g := { g with stack := rest }) hg hdg1 hend g5 g6
  refine ⟨v1, (T.setVm vm₁).calling { g with stack := rest } mk (Value.ref b :: As).toArray, s₂, T1, Ls, hT, X1, g7, ?_, ?_, hq, fun target htg => hstep₁ _ fun acts => ?_⟩
  · rw [ht]; simp
  · rw [ht]; simp
  · rw [doInvoke_state]
    rw [ht] at hsteps
    exact hsteps.trans htg
end LRN
/-- two worlds, apart -/
def lw_W (D : va_G) (cs : ClassId × ClassId × ClassId) (A : Nat → Prop) (s : State) (lo1 lo2 : Nat → Nat) (h1 h2 : ai_Hp) (H : Heap) (locs : List Loc) : Prop := (va_P D ai_cl (ai_w cs lo1 h1) H ∧ va_P D ai_cl (ai_w cs lo2 h2) H) ∧ (va_D A (ai_w cs lo1 h1) ∧ va_D A (ai_w cs lo2 h2)) ∧ (∀ (i j : Nat) (p q : Nat × va_E), (ai_w cs lo1 h1)[i]? = some p → (ai_w cs lo2 h2)[j]? = some q → p.1 ≠ q.1) ∧ va_S A s.heap H locs ∧ ai_ok h1 ∧ ai_ok h2
theorem lw_W.swap {D : va_G} {cs : ClassId × ClassId × ClassId} {A : Nat → Prop} {s : State} {lo1 lo2 : Nat → Nat} {h1 h2 : ai_Hp} {H : Heap} {locs : List Loc} (S : lw_W D cs A s lo1 lo2 h1 h2 H locs) : lw_W D cs A s lo2 lo1 h2 h1 H locs :=
  ⟨⟨S.1.2, S.1.1⟩, ⟨S.2.1.2, S.2.1.1⟩, fun i j p q hp hq he => S.2.2.1 j i q p hq hp he.symm, S.2.2.2.1, S.2.2.2.2.2, S.2.2.2.2.1⟩
section LWC
variable {p : Program} {l : Launch} {e : Env} {R : Room} {s : State} {m : MethodId} {args : Array Value} {below : List Frame} {meth : Method} {c : Code} {H : Heap} {locs : List Loc} {cells slots : Nat} {Q : State → Prop}
/-- behind a call of the first world's -/
theorem lw_goon {D : va_G} {cs : ClassId × ClassId × ClassId} {ad : Nat → Nat} {A : Nat → Prop} {lo1 lo2 : Nat → Nat} {h1 h2 h1' : ai_Hp} {v : Option Value} {pc : Nat} {ls : Array Slot} {st0 rest : List Value} {arr : Array Value} (S : lw_W D cs A s lo1 lo2 h1 h2 H locs) (hA : ∀ q, s.heap.size ≤ q → A q)
    (hr : va_Run p l e R s m args below meth c H locs cells slots (h1'.1.1 - h1.1.1) (h1'.1.2 - h1.1.2) (F0 m pc ls st0) rest (ai_Qc D cs ad lo1 h1 (.inl v, h1') (va_A (ai_w cs lo1 h1) H.size) arr) (va_A (ai_w cs lo1 h1) H.size))
    (kk : ∀ (lo1' : Nat → Nat) (H1 : Heap) (locs1 : List Loc), lw_W D cs A s lo1' lo2 h1' h2 H1 locs1 → ai_sm h1 lo1 h1' lo1' → W p l e R s m args below meth c H1 locs1 (cells + (h1'.1.1 - h1.1.1)) (slots + (h1'.1.2 - h1.1.2)) Q (F0 m (pc + 3) ls ((v.map (ai_tv lo1' (ai_skk ad))).toList ++ rest))) : W p l e R s m args below meth c H locs cells slots Q (F0 m pc ls st0) := by
  obtain ⟨⟨hP1, hP2⟩, ⟨hD1, hD2⟩, hap, hS, hok1, hok2⟩ := S
  have hsub := ai_subA hD1 hS hA
  intro T hT Y
  obtain ⟨v1, st₀, t, T1, Ls, g0, X1, hL, e1, e2, ⟨⟨lo', hv, q1, q2, q3, q4⟩, hz, hkp⟩, stp⟩ := hr T hT Y
  rw [g0] at hz hkp
  have hv1 : v1 = v.map (ai_tv lo' (ai_skk ad)) := by
    have : Outcome.returned v1 = .returned (v.map (ai_tv lo' (ai_skk ad))) := hv
    cases this
    rfl
  subst hv1
  have hout : ∀ (j : Nat) (q : Nat × va_E), (ai_w cs lo2 h2)[j]? = some q → ¬ va_A (ai_w cs lo1 h1) H.size q.1 := by
    intro j q hq hA1
    rcases hA1 with ⟨k, en, hk⟩ | hA1
    · exact hap k j _ q hk hq rfl
    · have := (hP2 j q hq).lt
      omega
  have S1 : lw_W D cs A s lo' lo2 h1' h2 T1.heap (locs ++ Ls) := by
    refine ⟨⟨by rw [e1]; exact q1, fun j q hq => (hP2 j q hq).kept (by rw [e1]; exact hkp q.1 (hP2 j q hq).lt (hout j q hq))⟩, ⟨q2.weaken (fun k q _ h => hsub q.1 h), hD2⟩, fun i j x y hx hy he => ?_, ⟨Nat.le_trans hS.1 (by rw [e1]; exact hz), fun q k1 k2 => ?_, fun q hq => ?_⟩, q3, hok2⟩
    · have h1 := q2.2 i x hx
      rw [he] at h1
      exact hout j y hy h1
    · rw [e1, hkp q (Nat.lt_of_lt_of_le k1 hS.1) (fun z => k2 (hsub q z))]
      exact hS.2.1 q k1 k2
    · rcases List.mem_append.mp hq with h | h
      · exact hS.2.2 q h
      · exact hsub _ (hL q h)
  obtain ⟨t2, a1, b1⟩ := kk lo' T1.heap (locs ++ Ls) S1 q4 T1 rfl X1
  exact ⟨t2, stp t2 a1, b1⟩
end LWC
