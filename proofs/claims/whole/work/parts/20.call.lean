/-! calls -/
def ai_rm (e : Nat) (h : ai_Hp) (r : (Option Value ⊕ Nat) × ai_Hp) : Room := { frames := e + 10, cells := r.2.1.1 - h.1.1, slots := r.2.1.2 - h.1.2, locals := 60 * e + 400 }
def ai_Pc (D : va_G) (cs : ClassId × ClassId × ClassId) (ad adV lo : Nat → Nat) (h : ai_Hp) (vs : List Value) (sz : Nat) : Array Value → State → Prop := va_Pc (vs.map (ai_tv lo (ai_skk ad))) (fun U => U.heap.size = sz ∧ va_P D ai_cl (ai_w cs lo h) U.heap ∧ va_D (fun _ => True) (ai_w cs lo h) ∧ ai_ok h ∧ ai_Sta D cs ad adV (va_A (ai_w cs lo h) sz) U)
def ai_Qc (D : va_G) (cs : ClassId × ClassId × ClassId) (ad lo : Nat → Nat) (h : ai_Hp) (r : (Option Value ⊕ Nat) × ai_Hp) (A : Nat → Prop) : Array Value → State → Outcome → State → Prop := fun _ st o t => (∃ lo1 : Nat → Nat, o = ai_oc lo1 (ai_skk ad) r.1 ∧ va_P D ai_cl (ai_w cs lo1 r.2) t.heap ∧ va_D A (ai_w cs lo1 r.2) ∧ ai_ok r.2 ∧ ai_sm h lo r.2 lo1) ∧ va_F A st t
def ai_Qf (st t : State) (mc ms : Nat) (A : Nat → Prop) : Prop := ∃ Ls : List Loc, st.WarmedH t.vm ∧ st.sameButNew ({ t with vm := st.vm } : State) Ls mc ms ∧ ∀ q ∈ Ls, A q.base
/-- a method's contract, at the values and the heap at which it is called -/
def ai_Con (l : Launch) (e cal : Nat) (vs : List Value) (h : ai_Hp) (r : (Option Value ⊕ Nat) × ai_Hp) : Prop := ∃ (bytes : ByteArray) (maxL : Nat) (ret : Option FieldType), Cond.code (ai_y cal) bytes maxL ret ∈ ai_tb ∧ maxL ≤ 16 ∧ ((ai_y cal).name = "<init>" → ret = none) ∧ ∀ (D : va_G) (cs : ClassId × ClassId × ClassId) (ad adV lo : Nat → Nat) (sz : Nat), MetFree l (ai_y cal) (headSpec (Cond.code (ai_y cal) bytes maxL ret :: ai_tb) (ai_rm e h r)) (ai_Pc D cs ad adV lo h vs sz) (fun _ _ _ _ _ => True) (fun a st o t => ai_Qc D cs ad lo h r (va_A (ai_w cs lo h) sz) a st o t ∧ ai_Qf st t (r.2.1.1 - h.1.1) (r.2.1.2 - h.1.2) (va_A (ai_w cs lo h) sz))
theorem ai_nws_shape {w : Cond} (h : w ∈ ai_nws) : (∃ (a : String) (i : Nat) (b n d hh : String), w = .fieldLinkNest a i b n d hh) ∨ ∃ (a : String) (i : Nat) (x : MethodName) (hh : String), w = .methodLinkNest a i x hh := by
  rcases List.mem_append.mp h with h | h
  · obtain ⟨r, hr, rfl⟩ := List.mem_map.mp h
    have hn := (List.mem_filter.mp hr).2
    left
    unfold ai_fw
    split
    rw [hn]
    exact ⟨_, _, _, _, _, _, rfl⟩
  · obtain ⟨r, hr, rfl⟩ := List.mem_map.mp h
    have hn := (List.mem_filter.mp hr).2
    right
    unfold ai_mw
    rw [hn]
    exact ⟨_, _, _, _, rfl⟩
theorem ai_Ns.warm {s U : State} (hW : s.WarmedH U.vm) (h : ai_Ns s) : ai_Ns U := by
  intro w hw
  have h1 := h w hw
  rcases ai_nws_shape hw with ⟨a, i, b, n, d, hh, rfl⟩ | ⟨a, i, x, hh, rfl⟩
  · exact va_Nw.warmF hW h1
  · exact va_Nw.warmM hW h1
theorem ai_Ns.same {s U : State} (hv : s.vm = U.vm) (h : ai_Ns s) : ai_Ns U := by
  intro w hw
  have h1 := h w hw
  rcases ai_nws_shape hw with ⟨a, i, b, n, d, hh, rfl⟩ | ⟨a, i, x, hh, rfl⟩
  · exact va_Nw.same rfl hv h1
  · exact va_Nw.same rfl hv h1
theorem ai_Zs.moved {A : Nat → Prop} {u U : State} {H : Heap} (hvm : u.vm.Alike U.vm) (h : ai_Zs A u H) : ai_Zs A U H := ⟨va_Z.moved hvm h.1, va_Zq.moved hvm h.2.1, va_Zq.moved hvm h.2.2.1, va_Zq.moved hvm h.2.2.2⟩
theorem ai_Zs.kept {A : Nat → Prop} {U : State} {H H1 : Heap} (h : ai_Zs A U H) (hq : ∀ a : Nat, a < H.size → ¬ A a → H1[a]? = H[a]?) : ai_Zs A U H1 := ⟨h.1.kept hq, h.2.1.kept hq, h.2.2.1.kept hq, h.2.2.2.kept hq⟩
theorem ai_Zs.narrow {A B : Nat → Prop} {U : State} {H : Heap} (h : ai_Zs A U H) (hAB : ∀ q, B q → A q) : ai_Zs B U H := ⟨h.1.narrow hAB, h.2.1.narrow hAB, h.2.2.1.narrow hAB, h.2.2.2.narrow hAB⟩
theorem ai_Sta.go {D : va_G} {cs : ClassId × ClassId × ClassId} {ad adV : Nat → Nat} {A A1 : Nat → Prop} {s U : State} {H : Heap} {locs : List Loc} (h : ai_Sta D cs ad adV A s) (hS : va_S A s.heap H locs) (hU : U.heap = H) (hW : s.WarmedH U.vm) (hA : ∀ q, A1 q → A q) : ai_Sta D cs ad adV A1 U :=
  ⟨va_K.moved hW.alike h.1, ai_Ns.warm hW h.2.1, fun j r hj => (h.2.2.1 j r hj).warm hW, by rw [hU]; exact ((h.2.2.2.1.kept hS.2.1).moved hW.alike).narrow hA, by rw [hU]; exact ((h.2.2.2.2.kept hS.2.1).moved hW.alike).narrow hA⟩
theorem ai_Sta.same {D : va_G} {cs : ClassId × ClassId × ClassId} {ad adV : Nat → Nat} {A : Nat → Prop} {s U : State} (h : ai_Sta D cs ad adV A s) (hU : U.heap = s.heap) (hv : U.vm = s.vm) : ai_Sta D cs ad adV A U := by
  have hal : s.vm.Alike U.vm := by rw [hv]; exact Vm.Alike.refl _
  exact ⟨va_K.moved hal h.1, ai_Ns.same hv.symm h.2.1, fun j r hj => (h.2.2.1 j r hj).same hv, by rw [hU]; exact h.2.2.2.1.moved hal, by rw [hU]; exact h.2.2.2.2.moved hal⟩
theorem ai_blind {D : va_G} {cs : ClassId × ClassId × ClassId} {ad adV lo : Nat → Nat} {h : ai_Hp} {vs : List Value} {sz : Nat} : FrameBlind (ai_Pc D cs ad adV lo h vs sz) := by
  intro a U g mk hP
  obtain ⟨h1, h2, h3, h4, h5, h6⟩ := hP
  exact ⟨h1, h2, h3, h4, h5, h6.same rfl rfl⟩
theorem ai_subA {A : Nat → Prop} {ws : va_W} {H H0 : Heap} {locs : List Loc} (hD : va_D A ws) (hS : va_S A H0 H locs) (hA : ∀ q, H0.size ≤ q → A q) : ∀ q, va_A ws H.size q → A q := by
  intro q h
  rcases h with ⟨k, e, h⟩ | h
  · exact hD.2 k (q, e) h
  · exact hA q (Nat.le_trans hS.1 h)
theorem ai_PcU {D : va_G} {cs : ClassId × ClassId × ClassId} {ad adV lo : Nat → Nat} {h : ai_Hp} {vs As : List Value} {A : Nat → Prop} {s : State} {H : Heap} {locs : List Loc} (hv : vs.map (ai_tv lo (ai_skk ad)) = As) (hP : va_P D ai_cl (ai_w cs lo h) H) (hD : va_D A (ai_w cs lo h)) (hS : va_S A s.heap H locs) (hok : ai_ok h) (hSt : ai_Sta D cs ad adV A s) (hA : ∀ q, s.heap.size ≤ q → A q) : ∀ U : State, U.heap = H → s.WarmedH U.vm → ai_Pc D cs ad adV lo h vs H.size As.toArray U := by
  intro U hU hW
  subst hv
  exact ⟨rfl, by rw [hU], by rw [hU]; exact hP, hD.weaken (fun _ _ _ _ => trivial), hok, hSt.go hS hU hW (ai_subA hD hS hA)⟩
theorem ai_met {l : Launch} {y : MethodName} {ws : List Cond} {rm : Room} {D : va_G} {cs : ClassId × ClassId × ClassId} {ad lo : Nat → Nat} {h : ai_Hp} {v : Option Value} {h1 : ai_Hp} {A : Nat → Prop} {P : Array Value → State → Prop} {mc ms : Nat} (hM : MetFree l y (headSpec ws rm) P (fun _ _ _ _ _ => True) (fun a st o t => ai_Qc D cs ad lo h (.inl v, h1) A a st o t ∧ ai_Qf st t mc ms A)) : Met l y ws rm P (ai_Qc D cs ad lo h (.inl v, h1) A) mc ms A := by
  intro p e ha hc hk s m args below hf happ hP hK
  obtain ⟨n, o, g1, g2, g3, g4, Ls, g5, g6, g7⟩ := hM p e ha hc hk s m args below hf happ hP hK
  refine ⟨n, o, g1, g2, g3, g4, Ls, ⟨?_, g5, g6⟩, g7⟩
  obtain ⟨⟨lo1, ho, -⟩, -⟩ := g4
  exact ⟨_, ho⟩
section ACL
variable {p : Program} {l : Launch} {e : Env} {R : Room} {s : State} {m : MethodId} {args : Array Value} {below : List Frame} {meth : Method} {c : Code} {H : Heap} {locs : List Loc} {cells slots : Nat} {Q : State → Prop}
/-- behind a call that returns -/
theorem ai_goon {D : va_G} {cs : ClassId × ClassId × ClassId} {ad adV : Nat → Nat} {A : Nat → Prop} {h0 : ai_Hp} {lo0 : Nat → Nat} {r : (Option Value ⊕ Nat) × ai_Hp} {mc ms : Nat} {lo : Nat → Nat} {L rs : List Value} {h h1 : ai_Hp} {v : Option Value} {ls : Array Slot} {pc : Nat} {st0 : List Value} {arr : Array Value} (S : ai_St (p, l, e, R, s, m, args, below, meth, c) (D, cs, ad, adV, A, h0, lo0, r, mc, ms, Q) lo L h ls H locs cells slots) (hA : ∀ q, s.heap.size ≤ q → A q)
    (hr : va_Run p l e R s m args below meth c H locs cells slots (h1.1.1 - h.1.1) (h1.1.2 - h.1.2) (F0 m pc ls st0) (rs.map (ai_tv lo (ai_skk ad))) (ai_Qc D cs ad lo h (.inl v, h1) (va_A (ai_w cs lo h) H.size) arr) (va_A (ai_w cs lo h) H.size)) (hm : h.1.1 ≤ h1.1.1 ∧ h.1.2 ≤ h1.1.2) (hfL : ai_fr h.2.1 L = true) (hfr : ai_fr h.2.1 rs = true)
    (kk : ai_K1 (p, l, e, R, s, m, args, below, meth, c) (D, cs, ad, adV, A, h0, lo0, r, mc, ms, Q) (pc + 3) L (v.toList ++ rs) h1) : W p l e R s m args below meth c H locs cells slots Q (F0 m pc ls st0) := by
  obtain ⟨hl, ⟨hP, hD, hS⟩, ⟨hok, hsm⟩, hc1, hc2⟩ := S
  have hsub := ai_subA hD hS hA
  intro T hT Y
  obtain ⟨v1, st₀, t, T1, Ls, g0, X1, hL, e1, e2, ⟨⟨lo1, hv, q1, q2, q3, q4⟩, hz, hkp⟩, stp⟩ := hr T hT Y
  rw [g0] at hz hkp
  have hv1 : v1 = v.map (ai_tv lo1 (ai_skk ad)) := by
    have : Outcome.returned v1 = .returned (v.map (ai_tv lo1 (ai_skk ad))) := hv
    cases this
    rfl
  subst hv1
  have S1 : ai_St (p, l, e, R, s, m, args, below, meth, c) (D, cs, ad, adV, A, h0, lo0, r, mc, ms, Q) lo1 L h1 ls T1.heap (locs ++ Ls) (cells + (h1.1.1 - h.1.1)) (slots + (h1.1.2 - h.1.2)) := by
    refine ⟨?_, ⟨by rw [e1]; exact q1, q2.weaken (fun k q _ h => hsub q.1 h), Nat.le_trans hS.1 (by rw [e1]; exact hz), fun q k1 k2 => ?_, fun q hq => ?_⟩, ⟨q3, hsm.tr q4⟩, ?_, ?_⟩
    · show lv_has ls L.length (ai_ll lo1 (ai_skk ad) L)
      rw [ai_ll_lo (ai_fr_tv hfL q4)]
      exact hl
    · rw [e1, hkp q (Nat.lt_of_lt_of_le k1 hS.1) (fun z => k2 (hsub q z))]
      exact hS.2.1 q k1 k2
    · rcases List.mem_append.mp hq with h | h
      · exact hS.2.2 q h
      · exact hsub _ (hL q h)
    · omega
    · omega
  obtain ⟨t2, a1, b1⟩ := kk lo1 ls T1.heap (locs ++ Ls) _ _ S1 T1 rfl X1
  refine ⟨t2, stp t2 ?_, b1⟩
  have hst : (v.toList ++ rs).map (ai_tv lo1 (ai_skk ad)) = (v.map (ai_tv lo1 (ai_skk ad))).toList ++ rs.map (ai_tv lo (ai_skk ad)) := by
    rw [List.map_append, ai_map_tv (ai_fr_tv hfr q4)]
    cases v <;> rfl
  rw [hst] at a1
  exact a1
end ACL
