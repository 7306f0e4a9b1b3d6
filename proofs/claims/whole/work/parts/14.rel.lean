/-! the real machine beside the abstract one: values, cells, locals -/
def ai_tv (lo sk : Nat → Nat) : Value → Value
  | .int x => .int x
  | .long x => .long x
  | .ref a => .ref (lo a)
  | .retAddr (j + 1) => .ref (sk j)
  | _ => .null
def ai_cA (cs : ClassId × ClassId × ClassId) : Nat → ClassId
  | 2 => cs.2.1
  | 3 => cs.2.2
  | _ => cs.1
def ai_fv (lo : Nat → Nat) (h : ai_Hp) (k ci j : Nat) : Value := match ai_ft ci j with
  | 0 => .int (h.2.2.2.1 k j)
  | 1 => .long (h.2.2.2.2 k j)
  | _ => va_rf ((h.2.2.1 k j).map lo)
def ai_fs (lo : Nat → Nat) (h : ai_Hp) (k ci : Nat) : List Value := (List.range (ai_nf ci)).map (ai_fv lo h k ci)
def ai_we (cs : ClassId × ClassId × ClassId) (lo : Nat → Nat) (h : ai_Hp) (k : Nat) (q : Nat × Nat) : va_E := match q.1 with
  | 0 => .inr (q.2, ai_fs lo h k q.2)
  | n + 1 => .inl (ai_cA cs (n + 1), q.2, .inl (h.2.2.2.1 k))
def ai_w (cs : ClassId × ClassId × ClassId) (lo : Nat → Nat) (h : ai_Hp) : va_W := h.2.1.mapIdx (fun k q => (lo k, ai_we cs lo h k q))
def ai_ok (h : ai_Hp) : Prop := ∀ k j v : Nat, h.2.2.1 k j = some v → v < h.2.1.length
def ai_sm (h0 : ai_Hp) (lo0 : Nat → Nat) (h : ai_Hp) (lo : Nat → Nat) : Prop := ∀ (k : Nat) (q : Nat × Nat), h0.2.1[k]? = some q → q.1 ≠ 4 → h.2.1[k]? = some q ∧ lo k = lo0 k
theorem ai_sm.rf {h : ai_Hp} {lo : Nat → Nat} : ai_sm h lo h lo := fun _ _ h _ => ⟨h, rfl⟩
theorem ai_sm.tr {h0 h1 h2 : ai_Hp} {l0 l1 l2 : Nat → Nat} (a : ai_sm h0 l0 h1 l1) (b : ai_sm h1 l1 h2 l2) : ai_sm h0 l0 h2 l2 := fun k q hk hq => ⟨(b k q (a k q hk hq).1 hq).1, (b k q (a k q hk hq).1 hq).2.trans (a k q hk hq).2⟩
theorem ai_w_get {cs : ClassId × ClassId × ClassId} {lo : Nat → Nat} {h : ai_Hp} {k : Nat} {q : Nat × Nat} (hk : h.2.1[k]? = some q) : (ai_w cs lo h)[k]? = some (lo k, ai_we cs lo h k q) := by
  unfold ai_w
  rw [List.getElem?_mapIdx, hk]
  rfl
theorem ai_w_len {cs : ClassId × ClassId × ClassId} {lo : Nat → Nat} {h : ai_Hp} : (ai_w cs lo h).length = h.2.1.length := by
  unfold ai_w
  rw [List.length_mapIdx]
/-- a change at one cell is a change at one place of the world -/
theorem ai_w_set {cs : ClassId × ClassId × ClassId} {lo : Nat → Nat} {h h1 : ai_Hp} {a : Nat} {q : Nat × Nat} (hS : h1.2.1 = h.2.1) (ha : h.2.1[a]? = some q) (ho : ∀ k, k ≠ a → h1.2.2.1 k = h.2.2.1 k ∧ h1.2.2.2.1 k = h.2.2.2.1 k ∧ h1.2.2.2.2 k = h.2.2.2.2 k) : ai_w cs lo h1 = (ai_w cs lo h).set a (lo a, ai_we cs lo h1 a q) := by
  apply List.ext_getElem?
  intro k
  have hal : a < h.2.1.length := (List.getElem?_eq_some_iff.mp ha).1
  by_cases hk : k = a
  · subst hk
    rw [List.getElem?_set_self (by rw [ai_w_len]; exact hal), ai_w_get (q := q) (by rw [hS]; exact ha)]
  · rw [List.getElem?_set_ne (Ne.symm hk)]
    cases hq : h.2.1[k]? with
    | none =>
      have h2 : (ai_w cs lo h)[k]? = none := by unfold ai_w; rw [List.getElem?_mapIdx, hq]; rfl
      have h3 : (ai_w cs lo h1)[k]? = none := by unfold ai_w; rw [List.getElem?_mapIdx, hS, hq]; rfl
      rw [h2, h3]
    | some p =>
      rw [ai_w_get hq, ai_w_get (h := h1) (q := p) (by rw [hS]; exact hq)]
      obtain ⟨e1, e2, e3⟩ := ho k hk
      have : ai_we cs lo h1 k p = ai_we cs lo h k p := by
        unfold ai_we ai_fs
        rw [e2]
        have : ai_fv lo h1 k p.2 = ai_fv lo h k p.2 := by
          funext j
          unfold ai_fv
          rw [e1, e2, e3]
        rw [this]
      rw [this]
/-- one cell more -/
theorem ai_w_push {cs : ClassId × ClassId × ClassId} {lo : Nat → Nat} {h h1 : ai_Hp} {a : Nat} {q : Nat × Nat} (hok : ai_ok h) (hS : h1.2.1 = h.2.1 ++ [q]) (ho : ∀ k, k < h.2.1.length → h1.2.2.1 k = h.2.2.1 k ∧ h1.2.2.2.1 k = h.2.2.2.1 k ∧ h1.2.2.2.2 k = h.2.2.2.2 k) : ai_w cs (fun k => if k = h.2.1.length then a else lo k) h1 = ai_w cs lo h ++ [(a, ai_we cs (fun k => if k = h.2.1.length then a else lo k) h1 h.2.1.length q)] := by
  apply List.ext_getElem?
  intro k
  rcases Nat.lt_trichotomy k h.2.1.length with hk | hk | hk
  · rw [List.getElem?_append_left (by rw [ai_w_len]; exact hk)]
    have hq : h.2.1[k]? = some h.2.1[k] := List.getElem?_eq_getElem hk
    rw [ai_w_get hq, ai_w_get (h := h1) (q := h.2.1[k]) (by rw [hS, List.getElem?_append_left hk]; exact hq)]
    obtain ⟨e1, e2, e3⟩ := ho k hk
    rw [if_neg (Nat.ne_of_lt hk)]
    have : ai_we cs (fun k => if k = h.2.1.length then a else lo k) h1 k h.2.1[k] = ai_we cs lo h k h.2.1[k] := by
      unfold ai_we ai_fs
      rw [e2]
      have : ai_fv (fun k => if k = h.2.1.length then a else lo k) h1 k h.2.1[k].2 = ai_fv lo h k h.2.1[k].2 := by
        funext j
        unfold ai_fv
        rw [e1, e2, e3]
        split
        · rfl
        · rfl
        · cases hr : h.2.2.1 k j with
          | none => rfl
          | some v =>
            have := hok k j v hr
            simp [Nat.ne_of_lt this]
      rw [this]
    rw [this]
  · subst hk
    rw [List.getElem?_append_right (by rw [ai_w_len]; exact Nat.le_refl _), ai_w_len, Nat.sub_self, ai_w_get (q := q) (by rw [hS]; simp)]
    simp
  · have h2 : (ai_w cs (fun k => if k = h.2.1.length then a else lo k) h1)[k]? = none := by
      rw [List.getElem?_eq_none_iff, ai_w_len, hS]; simp; omega
    rw [h2, eq_comm, List.getElem?_eq_none_iff]
    simp [ai_w_len]; omega
theorem ai_fs_get {lo : Nat → Nat} {h : ai_Hp} {k ci j : Nat} (hj : j < ai_nf ci) : (ai_fs lo h k ci)[j]? = some (ai_fv lo h k ci j) := by
  unfold ai_fs
  rw [List.getElem?_map, List.getElem?_range hj]
  rfl
theorem ai_fs_len {lo : Nat → Nat} {h : ai_Hp} {k ci : Nat} : (ai_fs lo h k ci).length = ai_nf ci := by
  unfold ai_fs
  simp
theorem ai_fs_set {lo : Nat → Nat} {h h1 : ai_Hp} {k ci j : Nat} {v : Value} (hv : ai_fv lo h1 k ci j = v) (ho : ∀ i, i ≠ j → ai_fv lo h1 k ci i = ai_fv lo h k ci i) : ai_fs lo h1 k ci = (ai_fs lo h k ci).set j v := by
  apply List.ext_getElem?
  intro i
  by_cases hi : i < ai_nf ci
  · by_cases hij : i = j
    · subst hij
      rw [List.getElem?_set_self (by rw [ai_fs_len]; exact hi), ai_fs_get hi, hv]
    · rw [List.getElem?_set_ne (Ne.symm hij), ai_fs_get hi, ai_fs_get hi, ho i hij]
  · have e1 : (ai_fs lo h1 k ci)[i]? = none := by rw [List.getElem?_eq_none_iff, ai_fs_len]; omega
    have e2 : ((ai_fs lo h k ci).set j v)[i]? = none := by rw [List.getElem?_eq_none_iff, List.length_set, ai_fs_len]; omega
    rw [e1, e2]
theorem ai_obj_spec {h : ai_Hp} {a ci : Nat} (ho : ai_obj h a ci = true) : h.2.1[a]? = some (0, ci) := by
  unfold ai_obj at ho
  cases hq : h.2.1[a]? with
  | none => rw [hq] at ho; cases ho
  | some q =>
    rw [hq] at ho
    simp only [Bool.and_eq_true] at ho
    obtain ⟨q1, q2⟩ := q
    have e1 : q1 = 0 := Nat.eq_of_beq_eq_true ho.1
    have e2 : q2 = ci := Nat.eq_of_beq_eq_true ho.2
    rw [e1, e2]
theorem ai_row_spec {h : ai_Hp} {a k1 k2 n : Nat} (ho : ai_row h a k1 k2 = some n) : h.2.1[a]? = some (k1, n) ∨ h.2.1[a]? = some (k2, n) := by
  unfold ai_row at ho
  cases hq : h.2.1[a]? with
  | none => rw [hq] at ho; cases ho
  | some q =>
    rw [hq] at ho
    obtain ⟨q1, q2⟩ := q
    dsimp only at ho
    cases hb : (Nat.beq q1 k1 || Nat.beq q1 k2) with
    | false => rw [hb] at ho; cases ho
    | true =>
      rw [hb] at ho
      have := Option.some.inj ho
      subst this
      rcases Bool.or_eq_true _ _ |>.mp hb with h1 | h1
      · left; rw [Nat.eq_of_beq_eq_true h1]
      · right; rw [Nat.eq_of_beq_eq_true h1]
theorem ai_in_spec {i : Int32} {n : Nat} (h : ai_in i n = true) : vp_in i n := by
  simp only [ai_in, Bool.and_eq_true, decide_eq_true_eq] at h
  exact vp_in_iff.mpr h
/-! locals -/
def ai_l1 (lo sk : Nat → Nat) (i : Nat) (o : Option Value) : Option (Nat × Value) := match o with
  | some (Value.retAddr 0) => none
  | some v => some (i, ai_tv lo sk v)
  | none => none
def ai_ll (lo sk : Nat → Nat) (L : List Value) : List (Nat × Value) := (List.range L.length).filterMap (fun i => ai_l1 lo sk i L[i]?)
theorem ai_ll_in {lo sk : Nat → Nat} {L : List Value} {i : Nat} {v : Value} (h : L[i]? = some v) (hv : v ≠ .retAddr 0) : (i, ai_tv lo sk v) ∈ ai_ll lo sk L := by
  refine List.mem_filterMap.mpr ⟨i, List.mem_range.mpr (List.getElem?_eq_some_iff.mp h).1, ?_⟩
  rw [h]
  cases v with
  | retAddr n =>
    cases n with
    | zero => exact absurd rfl hv
    | succ n => rfl
  | _ => rfl
theorem ai_ll_of {lo sk : Nat → Nat} {L : List Value} {q : Nat × Value} (h : q ∈ ai_ll lo sk L) : ∃ v, L[q.1]? = some v ∧ v ≠ .retAddr 0 ∧ q.2 = ai_tv lo sk v := by
  obtain ⟨i, -, hi⟩ := List.mem_filterMap.mp h
  cases hv : L[i]? with
  | none => rw [hv] at hi; cases hi
  | some v =>
    rw [hv] at hi
    by_cases h0 : v = .retAddr 0
    · subst h0; cases hi
    · have : some (i, ai_tv lo sk v) = some q := by
        rw [← hi]
        cases v with
        | retAddr n =>
          cases n with
          | zero => exact absurd rfl h0
          | succ n => rfl
        | _ => rfl
      cases this
      exact ⟨v, hv, h0, rfl⟩
abbrev ai_lr (lo sk : Nat → Nat) (ls : Array Slot) (L : List Value) : Prop := lv_has ls L.length (ai_ll lo sk L)
theorem ai_lr.at {lo sk : Nat → Nat} {ls : Array Slot} {L : List Value} (h : ai_lr lo sk ls L) {i : Nat} {v : Value} (hi : L[i]? = some v) (hv : v ≠ .retAddr 0) : ls[i]? = some (.val (ai_tv lo sk v)) := h.2.2 _ (ai_ll_in hi hv)
/-- fewer values are known -/
theorem ai_lr.less {lo sk : Nat → Nat} {ls : Array Slot} {L L1 : List Value} (h : ai_lr lo sk ls L) (hl : L1.length = L.length) (hv : ∀ (i : Nat) (v : Value), L1[i]? = some v → v ≠ .retAddr 0 → L[i]? = some v) : ai_lr lo sk ls L1 := by
  refine ⟨by rw [hl]; exact h.1, h.2.1, fun q hq => ?_⟩
  obtain ⟨v, h1, h2, h3⟩ := ai_ll_of hq
  rw [h3]
  exact h.at (hv _ _ h1 h2) h2
theorem ai_msk_len : ∀ (bs : List Bool) (L : List Value), (ai_msk bs L).length = L.length
  | [], L => by cases L <;> rfl
  | b :: bs, [] => by cases b <;> rfl
  | true :: bs, v :: L => by simp [ai_msk, ai_msk_len bs L]
  | false :: bs, v :: L => by simp [ai_msk, ai_msk_len bs L]
theorem ai_msk_get : ∀ (bs : List Bool) (L : List Value) (i : Nat) (v : Value), (ai_msk bs L)[i]? = some v → v ≠ .retAddr 0 → L[i]? = some v
  | [], L, i, v, h, _ => by cases L <;> exact h
  | b :: bs, [], i, v, h, _ => by cases b <;> exact h
  | true :: bs, w :: L, 0, v, h, _ => h
  | true :: bs, w :: L, i + 1, v, h, hv => by
    simp only [ai_msk, List.getElem?_cons_succ] at h ⊢
    exact ai_msk_get bs L i v h hv
  | false :: bs, w :: L, 0, v, h, hv => by
    simp only [ai_msk, List.getElem?_cons_zero, Option.some.injEq] at h
    exact absurd h.symm hv
  | false :: bs, w :: L, i + 1, v, h, hv => by
    simp only [ai_msk, List.getElem?_cons_succ] at h ⊢
    exact ai_msk_get bs L i v h hv
theorem ai_lr.msk {lo sk : Nat → Nat} {ls : Array Slot} {L : List Value} (h : ai_lr lo sk ls L) (bs : List Bool) : ai_lr lo sk ls (ai_msk bs L) := h.less (ai_msk_len bs L) (ai_msk_get bs L)
theorem ai_tv_cat {lo sk : Nat → Nat} {v : Value} (h : (ai_tv lo sk v).category = 2) : ∃ x, v = .long x := by
  cases v with
  | long x => exact ⟨x, rfl⟩
  | retAddr n => cases n <;> simp [ai_tv, Value.category] at h
  | _ => simp [ai_tv, Value.category] at h
theorem ai_set_len (L : List Value) (i : Nat) (v : Value) : (ai_set L i v).length = L.length := by
  cases i with
  | zero => simp [ai_set]
  | succ j =>
    simp only [ai_set]
    split <;> simp
theorem ai_set_self {L : List Value} {i : Nat} {v : Value} (hi : i < L.length) : (ai_set L i v)[i]? = some v := by
  cases i with
  | zero => simp [ai_set, hi]
  | succ j =>
    simp only [ai_set]
    split <;> simp [hi]
theorem ai_set_ne {L : List Value} {i k : Nat} {v w : Value} (hk : k ≠ i) (h : (ai_set L i v)[k]? = some w) (hw : w ≠ .retAddr 0) : L[k]? = some w ∧ (k + 1 = i → ∀ x, w ≠ .long x) := by
  cases i with
  | zero =>
    simp only [ai_set] at h
    rw [List.getElem?_set_ne (Ne.symm hk)] at h
    exact ⟨h, fun q => by omega⟩
  | succ j =>
    simp only [ai_set] at h
    split at h
    · rename_i x hx
      rw [List.getElem?_set_ne (Ne.symm hk)] at h
      by_cases hkj : k = j
      · subst hkj
        rw [List.getElem?_set_self (List.getElem?_eq_some_iff.mp hx).1] at h
        exact absurd (Option.some.inj h).symm hw
      · rw [List.getElem?_set_ne (Ne.symm hkj)] at h
        exact ⟨h, fun q => by omega⟩
    · rename_i hx
      rw [List.getElem?_set_ne (Ne.symm hk)] at h
      refine ⟨h, fun q x hwx => ?_⟩
      have : k = j := by omega
      subst this
      subst hwx
      exact hx x h
theorem ai_lr.set1 {lo sk : Nat → Nat} {ls' : Array Slot} {L : List Value} {i : Nat} {v : Value} (hi : i < L.length) (h : lv_has ls' L.length ((i, ai_tv lo sk v) :: (ai_ll lo sk L).filter (fun q => !(q.1 == i) && !(q.1 + 1 == i && q.2.category == 2)))) : ai_lr lo sk ls' (ai_set L i v) := by
  refine ⟨by rw [ai_set_len]; exact h.1, h.2.1, fun q hq => ?_⟩
  obtain ⟨w, h1, h2, h3⟩ := ai_ll_of hq
  obtain ⟨k, u⟩ := q
  dsimp only at h1 h3
  subst h3
  refine h.2.2 _ ?_
  by_cases hk : k = i
  · subst hk
    rw [ai_set_self hi] at h1
    cases h1
    exact List.mem_cons_self
  · obtain ⟨g1, g2⟩ := ai_set_ne hk h1 h2
    refine List.mem_cons_of_mem _ (List.mem_filter.mpr ⟨ai_ll_in g1 h2, ?_⟩)
    simp only [Bool.and_eq_true, Bool.not_eq_true', beq_eq_false_iff_ne, ne_eq, Bool.and_eq_false_iff]
    refine ⟨hk, ?_⟩
    by_cases hki : k + 1 = i
    · right
      intro hc
      obtain ⟨x, hx⟩ := ai_tv_cat hc
      exact g2 hki x hx
    · exact Or.inl hki
theorem ai_lr.set2 {lo sk : Nat → Nat} {ls' : Array Slot} {L : List Value} {i : Nat} {v : Value} (hi : i + 1 < L.length) (h : lv_has ls' L.length ((i, ai_tv lo sk v) :: (ai_ll lo sk L).filter (fun q => !(q.1 == i) && (!(q.1 == i + 1) && !(q.1 + 1 == i && q.2.category == 2))))) : ai_lr lo sk ls' ((ai_set L i v).set (i + 1) ai_un) := by
  refine ⟨by rw [List.length_set, ai_set_len]; exact h.1, h.2.1, fun q hq => ?_⟩
  obtain ⟨w, h1, h2, h3⟩ := ai_ll_of hq
  obtain ⟨k, u⟩ := q
  dsimp only at h1 h3
  subst h3
  refine h.2.2 _ ?_
  by_cases hk1 : k = i + 1
  · subst hk1
    rw [List.getElem?_set_self (by rw [ai_set_len]; exact hi)] at h1
    exact absurd (Option.some.inj h1).symm h2
  · rw [List.getElem?_set_ne (Ne.symm hk1)] at h1
    by_cases hk : k = i
    · subst hk
      rw [ai_set_self (by omega)] at h1
      cases h1
      exact List.mem_cons_self
    · obtain ⟨g1, g2⟩ := ai_set_ne hk h1 h2
      refine List.mem_cons_of_mem _ (List.mem_filter.mpr ⟨ai_ll_in g1 h2, ?_⟩)
      simp only [Bool.and_eq_true, Bool.not_eq_true', beq_eq_false_iff_ne, ne_eq, Bool.and_eq_false_iff]
      refine ⟨hk, hk1, ?_⟩
      by_cases hki : k + 1 = i
      · right
        intro hc
        obtain ⟨x, hx⟩ := ai_tv_cat hc
        exact g2 hki x hx
      · exact Or.inl hki
/-- another placing of the cells that no value names -/
theorem ai_ll_lo {lo lo1 sk : Nat → Nat} {L : List Value} (h : ∀ v ∈ L, ai_tv lo1 sk v = ai_tv lo sk v) : ai_ll lo1 sk L = ai_ll lo sk L := by
  have : (fun i => ai_l1 lo1 sk i L[i]?) = (fun i => ai_l1 lo sk i L[i]?) := by
    funext i
    cases hv : L[i]? with
    | none => rfl
    | some v =>
      have := h v (List.mem_of_getElem? hv)
      cases v with
      | retAddr n =>
        cases n with
        | zero => rfl
        | succ n => rfl
      | _ => simp only [ai_l1]; rw [this]
  unfold ai_ll
  rw [this]
theorem ai_nr_tv {lo sk : Nat → Nat} {n a : Nat} {vs : List Value} (h : ai_nr n vs = true) : ∀ v ∈ vs, ai_tv (fun k => if k = n then a else lo k) sk v = ai_tv lo sk v := by
  intro v hv
  have h1 := List.all_eq_true.mp h v hv
  cases v with
  | ref x =>
    simp only [ai_nrv, Bool.not_eq_true'] at h1
    have : x ≠ n := fun e => by rw [e] at h1; simp at h1
    simp [ai_tv, this]
  | retAddr n => cases n <;> rfl
  | _ => rfl
theorem ai_fr_tv {h h1 : ai_Hp} {lo lo1 sk : Nat → Nat} {vs : List Value} (hf : ai_fr h.2.1 vs = true) (hs : ai_sm h lo h1 lo1) : ∀ v ∈ vs, ai_tv lo1 sk v = ai_tv lo sk v := by
  intro v hv
  have h1 := List.all_eq_true.mp hf v hv
  cases v with
  | ref x =>
    simp only [ai_frv] at h1
    cases hq : h.2.1[x]? with
    | none => rw [hq] at h1; cases h1
    | some q =>
      rw [hq] at h1
      simp only [Bool.not_eq_true'] at h1
      have := (hs x q hq (fun e => by rw [e] at h1; cases h1)).2
      simp [ai_tv, this]
  | retAddr n => cases n <;> rfl
  | _ => rfl
theorem ai_map_tv {lo lo1 sk : Nat → Nat} {vs : List Value} (h : ∀ v ∈ vs, ai_tv lo1 sk v = ai_tv lo sk v) : vs.map (ai_tv lo1 sk) = vs.map (ai_tv lo sk) := List.map_congr_left h
theorem ai_wt_tv {lo sk : Nat → Nat} : ∀ vs : List Value, ((vs.map (ai_tv lo sk)).map fun v => v.category).sum ≤ ai_wt vs
  | [] => Nat.le_refl _
  | v :: vs => by
    have ih := ai_wt_tv (lo := lo) (sk := sk) vs
    simp only [ai_wt, List.map_cons, List.sum_cons] at ih ⊢
    have : (ai_tv lo sk v).category ≤ v.category := by
      cases v with
      | retAddr n => cases n <;> simp [ai_tv, Value.category]
      | _ => simp [ai_tv, Value.category]
    omega
