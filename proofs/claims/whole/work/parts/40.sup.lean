/-! what a run leaves alone: no field beyond the 64th, no cell beyond the last -/
def ai_Su (h : ai_Hp) : Prop := ∀ k j : Nat, h.2.1.length ≤ k ∨ 64 ≤ j → h.2.2.1 k j = none ∧ h.2.2.2.2 k j = 0
def ai_Pr (h : ai_Hp) (r : (Option Value ⊕ Nat) × ai_Hp) : Prop := ai_Su h → ai_Su r.2
def ai_pj (op : ai_Op) : Bool := match op.1 with
  | .putfield _ => (match op.2.1 with
    | _ :: j :: _ => Nat.blt j 64
    | _ => true)
  | _ => true
theorem ai_pj_all : ((List.range 216).all fun mi => ((ai_prog[mi]?).getD []).all fun bk => bk.1.all ai_pj) = true := by decide +kernel
theorem ai_Pr.le {h h1 : ai_Hp} {r : (Option Value ⊕ Nat) × ai_Hp} (p : ai_Pr h1 r) (hl : ai_Su h → ai_Su h1) : ai_Pr h r := fun s => p (hl s)
theorem ai_Pr.end {h : ai_Hp} {v : Option Value ⊕ Nat} {r : (Option Value ⊕ Nat) × ai_Hp} (hr : some (v, h) = some r) : ai_Pr h r := by
  cases hr
  exact fun s => s
theorem ai_Su.mk {h : ai_Hp} {kd n : Nat} (s : ai_Su h) : ai_Su (ai_mk kd n h) := by
  intro k j hk
  refine s k j ?_
  rcases hk with hk | hk
  · have : (h.2.1 ++ [(kd, n)]).length ≤ k := hk
    rw [List.length_append] at this
    exact Or.inl (by simp at this; omega)
  · exact Or.inr hk
theorem ai_Su.ob {h : ai_Hp} {ci nf : Nat} (s : ai_Su h) : ai_Su (ai_ob ci nf h) := by
  intro k j hk
  by_cases he : k = h.2.1.length
  · subst he
    simp [ai_ob]
  · have := s k j (by
      rcases hk with hk | hk
      · have : (h.2.1 ++ [(0, ci)]).length ≤ k := hk
        rw [List.length_append] at this
        exact Or.inl (by simp at this; omega)
      · exact Or.inr hk)
    simpa [ai_ob, he] using this
theorem ai_Su.putf {v : Value} {a ci j ty : Nat} {h h1 : ai_Hp} (hj : j < 64) (hp : ai_putf v a ci j ty h = some h1) (s : ai_Su h) : ai_Su h1 := by
  unfold ai_putf at hp
  cases ho : ai_obj h a ci with
  | false => rw [ho] at hp; cases hp
  | true =>
    have ha : a < h.2.1.length := (List.getElem?_eq_some_iff.mp (ai_obj_spec ho)).1
    rw [ho] at hp
    dsimp only [cond_true] at hp
    have key : ∀ (k i : Nat) (w : Option Nat), h.2.1.length ≤ k ∨ 64 ≤ i → ai_uR h.2.2.1 a j w k i = h.2.2.1 k i := by
      intro k i w hk
      unfold ai_uR
      by_cases h1 : k = a
      · subst h1
        rw [if_pos rfl, if_neg (by omega)]
      · rw [if_neg h1]
    have keyL : ∀ (k i : Nat) (w : Int64), h.2.1.length ≤ k ∨ 64 ≤ i → ai_uL h.2.2.2.2 a j w k i = h.2.2.2.2 k i := by
      intro k i w hk
      unfold ai_uL
      by_cases h1 : k = a
      · subst h1
        rw [if_pos rfl]
        unfold vp_updL
        rw [if_neg (by omega)]
      · rw [if_neg h1]
    split at hp
    · cases hp; exact s
    · cases hp
      exact fun k i hk => ⟨(s k i hk).1, (keyL k i _ hk).trans (s k i hk).2⟩
    · rename_i x
      cases hb : Nat.blt x h.2.1.length with
      | false => rw [hb] at hp; cases hp
      | true =>
        rw [hb] at hp
        cases hp
        exact fun k i hk => ⟨(key k i _ hk).trans (s k i hk).1, (s k i hk).2⟩
    · cases hp
      exact fun k i hk => ⟨(key k i _ hk).trans (s k i hk).1, (s k i hk).2⟩
    · cases hp
theorem ai_prim_pr {cal : Nat} {vs : List Value} {h : ai_Hp} {r : (Option Value ⊕ Nat) × ai_Hp} (hp : ai_prim cal vs h = some r) : ai_Pr h r := by
  unfold ai_prim at hp
  split at hp
  · split at hp
    · exact ai_Pr.end hp
    · cases hp
  · split at hp
    · exact ai_Pr.end (ai_cnd hp).2
    · cases hp
  · exact ai_Pr.end (ai_cnd hp).2
  · unfold ai_mr at hp
    split at hp
    · cases hp
      unfold ai_Pr
      dsimp only
      split
      · intro s k j hk
        refine s k j ?_
        rcases hk with hk | hk
        · have : (h.2.1.set 49 (4, (ai_mrsz (h.2.2.2.1 9 0)).toNatClampNeg)).length ≤ k := hk
          rw [List.length_set] at this
          exact Or.inl this
        · exact Or.inr hk
      · exact fun s => s
    · cases hp
  · cases hp
theorem ai_inv_pr {rc : ai_Rec} {k : ai_K} {d mi cal n ci hd : Nat} {L st : List Value} {h : ai_Hp} {r : (Option Value ⊕ Nat) × ai_Hp} (hk : ∀ L st h', k L st h' = some r → ai_Pr h' r) (hrc : ∀ d mi b L st h r, rc d mi b L st h = some r → ai_Pr h r) (hs : ai_inv rc d mi cal n ci hd L st h k = some r) : ai_Pr h r := by
  unfold ai_inv at hs
  cases d with
  | zero => cases hs
  | succ e =>
    dsimp only at hs
    revert hs
    generalize (Nat.ble n st.length && (ai_fr h.2.1 L && (ai_fr h.2.1 (st.drop n) && (Nat.ble (ai_wt (st.drop n)) 8 && (ai_rcv h ci (st.take n).reverse && Nat.beq L.length (ai_mx mi)))))) = cb
    intro hs
    cases cb with
    | false => cases hs
    | true =>
      dsimp only [cond_true] at hs
      cases hx : (cond (Nat.ble 300 cal) (ai_prim cal (st.take n).reverse h) (rc e cal 0 (ai_ent (ai_mx cal) (st.take n).reverse) [] h)) with
      | none => rw [hx] at hs; cases hs
      | some q =>
        rw [hx] at hs
        have hq : ai_Pr h q := by
          cases hc : Nat.ble 300 cal with
          | true =>
            rw [hc] at hx
            exact ai_prim_pr hx
          | false =>
            rw [hc] at hx
            exact hrc _ _ _ _ _ _ _ hx
        obtain ⟨o, h1⟩ := q
        unfold ai_back at hs
        cases o with
        | inl v =>
          cases v with
          | none => exact (hk _ _ _ hs).le hq
          | some v => exact (hk _ _ _ hs).le hq
        | inr a =>
          dsimp only at hs
          cases hz : Nat.beq hd 0 with
          | true =>
            rw [hz] at hs
            cases hs
            exact hq
          | false =>
            rw [hz] at hs
            exact (hrc _ _ _ _ _ _ _ hs).le hq
set_option maxHeartbeats 4000000 in
theorem ai_step_pr {rc : ai_Rec} {k : ai_K} {d mi : Nat} {op : ai_Op} {L st : List Value} {h : ai_Hp} {r : (Option Value ⊕ Nat) × ai_Hp} (hnt : ai_pj op = true) (hk : ∀ L st h', k L st h' = some r → ai_Pr h' r) (hrc : ∀ d mi b L st h r, rc d mi b L st h = some r → ai_Pr h r) (H : ai_step rc d mi op L st h k = some r) : ai_Pr h r := by
  obtain ⟨ins, aux, cc⟩ := op
  cases ins
  all_goals dsimp only [ai_step, ai_ldI, ai_ldL, ai_ldA, ai_stI, ai_stL, ai_stA, ai_bin, ai_binL, ai_un1, ai_call, ai_spec, ai_br, ai_pj] at H hnt
  all_goals first
    | (cases H; done)
    | exact hk _ _ _ H
    | exact hrc _ _ _ _ _ _ _ H
    | exact ai_Pr.end H
    | skip
  all_goals (repeat' (split at H))
  all_goals first
    | (cases H; done)
    | exact hk _ _ _ H
    | exact hrc _ _ _ _ _ _ _ H
    | exact ai_Pr.end H
    | (rename_i h1 hp; exact (hk _ _ _ H).le (ai_Su.putf (Nat.blt_eq.mp hnt) hp))
    | skip
  all_goals try dsimp only at hnt
  all_goals first
    | exact ai_inv_pr hk hrc H
    | (have H1 := ai_cnd H; exact hk _ _ _ H1.2)
    | (have H1 := ai_cnd H; exact (hk _ _ _ H1.2).le ai_Su.mk)
    | (have H1 := ai_cnd H; exact (hk _ _ _ H1.2).le ai_Su.ob)
    | (have H1 := ai_cnd H; exact (hk _ _ _ H1.2).le (fun s => s))
    | (have H1 := (ai_cnd H).2; exact ai_Pr.end H1)
    | (revert H; generalize Nat.beq (aux.headD 0) 1 = cb; intro H; cases cb <;> first | exact ai_Pr.end H | (cases H; done))
    | (rcases ai_cnd2 H with H1 | H1 <;> first | exact ai_inv_pr hk hrc H1 | exact hk _ _ _ (ai_cnd H1).2 | (cases H1; done))
theorem ai_ops_pr {rc : ai_Rec} {d mi nx : Nat} {r : (Option Value ⊕ Nat) × ai_Hp} (hrc : ∀ d mi b L st h r, rc d mi b L st h = some r → ai_Pr h r) : ∀ (ops : List ai_Op) (L st : List Value) (h : ai_Hp), ops.all ai_pj = true → ai_ops rc d mi nx ops L st h = some r → ai_Pr h r
  | [], L, st, h, _, H => hrc _ _ _ _ _ _ _ H
  | op :: ops, L, st, h, hn, H => by
    simp only [List.all_cons, Bool.and_eq_true] at hn
    exact ai_step_pr hn.1 (fun L st h1 H1 => ai_ops_pr hrc ops L st h1 hn.2 H1) hrc H
theorem ai_code_pj (mi b : Nat) : (ai_code mi b).1.all ai_pj = true := by
  unfold ai_code
  cases hm : ai_prog[mi]? with
  | none => simp
  | some bs =>
    cases hb : bs[b]? with
    | none => simp [hb]
    | some bk =>
      have hlt : mi < 216 := (List.getElem?_eq_some_iff.mp hm).1
      have h1 := List.all_eq_true.mp ai_pj_all mi (List.mem_range.mpr hlt)
      rw [hm] at h1
      have h2 := List.all_eq_true.mp h1 bk (List.mem_of_getElem? hb)
      simpa [hb] using h2
theorem ai_ex_pr : ∀ (n : Nat) {d mi b : Nat} {L st : List Value} {h : ai_Hp} {r : (Option Value ⊕ Nat) × ai_Hp}, ai_ex n d mi b L st h = some r → ai_Pr h r
  | 0, d, mi, b, L, st, h, r, H => by cases H
  | n + 1, d, mi, b, L, st, h, r, H => ai_ops_pr (rc := ai_ex n) (fun d mi b L st h r H => ai_ex_pr n H) _ _ st h (ai_code_pj mi b) H
