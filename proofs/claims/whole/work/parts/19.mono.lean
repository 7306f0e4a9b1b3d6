/-! what every run keeps: the counts of cells grow; only four methods throw -/
def ai_thr (mi : Nat) : Bool := Nat.ble 169 mi && Nat.ble mi 172
def ai_nt (mi : Nat) (op : ai_Op) : Bool := match op.1 with
  | .athrow => ai_thr mi
  | .invokevirtual _ | .invokestatic _ | .invokespecial _ => (match op.2.1 with
    | cal :: _ :: _ :: hd :: _ => Nat.beq cal 998 || (!(ai_thr cal) || (ai_thr mi || !(Nat.beq hd 0)))
    | _ => true)
  | _ => true
theorem ai_nt_all : ((List.range 216).all fun mi => ((ai_prog[mi]?).getD []).all fun bk => bk.1.all (ai_nt mi)) = true := by decide +kernel
theorem ai_thr_kd : (ai_mlt.all fun r => !(ai_thr r.2.2.1) || (Nat.beq r.2.2.2.2.2.1 0 && !(r.2.2.2.2.2.2.1))) = true := by decide +kernel
def ai_Po (mi : Nat) (h : ai_Hp) (r : (Option Value ⊕ Nat) × ai_Hp) : Prop := (h.1.1 ≤ r.2.1.1 ∧ h.1.2 ≤ r.2.1.2) ∧ ∀ a, r.1 = .inr a → ai_thr mi = true ∧ ai_obj r.2 a 10 = true
theorem ai_Po.le {mi : Nat} {h h1 : ai_Hp} {r : (Option Value ⊕ Nat) × ai_Hp} (p : ai_Po mi h1 r) (hl : h.1.1 ≤ h1.1.1 ∧ h.1.2 ≤ h1.1.2) : ai_Po mi h r := ⟨⟨Nat.le_trans hl.1 p.1.1, Nat.le_trans hl.2 p.1.2⟩, p.2⟩
theorem ai_Po.end {mi : Nat} {h : ai_Hp} {v : Option Value} {r : (Option Value ⊕ Nat) × ai_Hp} (hr : some (Sum.inl v, h) = some r) : ai_Po mi h r := by
  cases hr
  exact ⟨⟨Nat.le_refl _, Nat.le_refl _⟩, fun a h => by cases h⟩
theorem ai_cnd {b : Bool} {x : ai_Res} {r : (Option Value ⊕ Nat) × ai_Hp} (h : (bif b then x else none) = some r) : b = true ∧ x = some r := by
  cases b with
  | false => cases h
  | true => exact ⟨rfl, h⟩
theorem ai_cnd2 {b : Bool} {x y : ai_Res} {r : (Option Value ⊕ Nat) × ai_Hp} (h : (bif b then x else y) = some r) : x = some r ∨ y = some r := by
  cases b with
  | false => exact Or.inr h
  | true => exact Or.inl h
theorem ai_nt_x {cal mi hd : Nat} (h : (Nat.beq cal 998 || (!(ai_thr cal) || (ai_thr mi || !(Nat.beq hd 0)))) = true) : (!(ai_thr cal) || (ai_thr mi || !(Nat.beq hd 0))) = true := by
  rcases Bool.or_eq_true _ _ |>.mp h with h | h
  · rw [ai_beq h]; rfl
  · exact h
theorem ai_putf_al {v : Value} {a ci j ty : Nat} {h h1 : ai_Hp} (hp : ai_putf v a ci j ty h = some h1) : h1.1 = h.1 := by
  unfold ai_putf at hp
  cases ho : ai_obj h a ci with
  | false => rw [ho] at hp; cases hp
  | true =>
    rw [ho] at hp
    dsimp only [cond_true] at hp
    split at hp
    · cases hp; rfl
    · cases hp; rfl
    · rename_i x
      cases hb : Nat.blt x h.2.1.length with
      | false => rw [hb] at hp; cases hp
      | true => rw [hb] at hp; cases hp; rfl
    · cases hp; rfl
    · cases hp
theorem ai_prim_po {cal : Nat} {vs : List Value} {h : ai_Hp} {r : (Option Value ⊕ Nat) × ai_Hp} (hp : ai_prim cal vs h = some r) : (h.1.1 ≤ r.2.1.1 ∧ h.1.2 ≤ r.2.1.2) ∧ ∃ v, r.1 = .inl v := by
  unfold ai_prim at hp
  split at hp
  · split at hp
    · cases hp; exact ⟨⟨Nat.le_refl _, Nat.le_refl _⟩, _, rfl⟩
    · cases hp
  · split at hp
    · obtain ⟨-, hp⟩ := ai_cnd hp
      cases hp; exact ⟨⟨Nat.le_refl _, Nat.le_refl _⟩, _, rfl⟩
    · cases hp
  · obtain ⟨-, hp⟩ := ai_cnd hp
    cases hp; exact ⟨⟨Nat.le_refl _, Nat.le_refl _⟩, _, rfl⟩
  · unfold ai_mr at hp
    split at hp
    · cases hp
      refine ⟨?_, _, rfl⟩
      dsimp only
      split
      · exact ⟨Nat.le_succ _, Nat.le_add_right _ _⟩
      · exact ⟨Nat.le_refl _, Nat.le_refl _⟩
    · cases hp
  · cases hp
theorem ai_inv_po {rc : ai_Rec} {k : ai_K} {d mi cal n ci hd : Nat} {L st : List Value} {h : ai_Hp} {r : (Option Value ⊕ Nat) × ai_Hp} (hnt : (!(ai_thr cal) || (ai_thr mi || !(Nat.beq hd 0))) = true) (hk : ∀ L st h', k L st h' = some r → ai_Po mi h' r) (hrc : ∀ d mi b L st h r, rc d mi b L st h = some r → ai_Po mi h r) (hs : ai_inv rc d mi cal n ci hd L st h k = some r) : ai_Po mi h r := by
  unfold ai_inv at hs
  cases d with
  | zero => cases hs
  | succ e =>
    dsimp only at hs
    revert hs
    generalize (Nat.ble n st.length && (ai_fr h.2.1 L && (ai_fr h.2.1 (st.drop n) && (Nat.ble (ai_wt (st.drop n)) 8 && (ai_rcv h ci (st.take n).reverse && Nat.beq L.length (ai_mx mi)))))) = cb
    intro hs
    cases cb with
    | false => cases hs
    | true =>
      dsimp only [cond_true] at hs
      cases hx : (cond (Nat.ble 300 cal) (ai_prim cal (st.take n).reverse h) (rc e cal 0 (ai_ent (ai_mx cal) (st.take n).reverse) [] h)) with
      | none => rw [hx] at hs; cases hs
      | some q =>
        rw [hx] at hs
        have hq : (h.1.1 ≤ q.2.1.1 ∧ h.1.2 ≤ q.2.1.2) ∧ ∀ a, q.1 = .inr a → ai_thr cal = true ∧ ai_obj q.2 a 10 = true := by
          cases hc : Nat.ble 300 cal with
          | true =>
            rw [hc] at hx
            obtain ⟨g1, v, g2⟩ := ai_prim_po hx
            exact ⟨g1, fun a ha => by rw [g2] at ha; cases ha⟩
          | false =>
            rw [hc] at hx
            exact hrc _ _ _ _ _ _ _ hx
        obtain ⟨o, h1⟩ := q
        unfold ai_back at hs
        cases o with
        | inl v =>
          cases v with
          | none => exact (hk _ _ _ hs).le hq.1
          | some v => exact (hk _ _ _ hs).le hq.1
        | inr a =>
          have ht := hq.2 a rfl
          rw [ht.1] at hnt
          dsimp only at hs
          cases hz : Nat.beq hd 0 with
          | true =>
            rw [hz] at hs hnt
            cases hs
            exact ⟨hq.1, fun b hb => ⟨by simpa using hnt, by cases hb; exact ht.2⟩⟩
          | false =>
            rw [hz] at hs
            exact (hrc _ _ _ _ _ _ _ hs).le hq.1
set_option maxHeartbeats 4000000 in
theorem ai_step_po {rc : ai_Rec} {k : ai_K} {d mi : Nat} {op : ai_Op} {L st : List Value} {h : ai_Hp} {r : (Option Value ⊕ Nat) × ai_Hp} (hnt : ai_nt mi op = true) (hk : ∀ L st h', k L st h' = some r → ai_Po mi h' r) (hrc : ∀ d mi b L st h r, rc d mi b L st h = some r → ai_Po mi h r) (H : ai_step rc d mi op L st h k = some r) : ai_Po mi h r := by
  obtain ⟨ins, aux, cc⟩ := op
  cases ins
  all_goals dsimp only [ai_step, ai_ldI, ai_ldL, ai_ldA, ai_stI, ai_stL, ai_stA, ai_bin, ai_binL, ai_un1, ai_call, ai_spec, ai_br, ai_nt] at H hnt
  all_goals first
    | (cases H; done)
    | exact hk _ _ _ H
    | exact hrc _ _ _ _ _ _ _ H
    | exact ai_Po.end H
    | skip
  all_goals (repeat' (split at H))
  all_goals first
    | (cases H; done)
    | exact hk _ _ _ H
    | exact hrc _ _ _ _ _ _ _ H
    | exact ai_Po.end H
    | (rename_i h1 hp; exact (hk _ _ _ H).le (by rw [ai_putf_al hp]; exact ⟨Nat.le_refl _, Nat.le_refl _⟩))
    | skip
  all_goals try dsimp only at hnt
  all_goals first
    | exact ai_inv_po (ai_nt_x hnt) hk hrc H
    | (have H1 := ai_cnd H; exact hk _ _ _ H1.2)
    | (have H1 := ai_cnd H; exact (hk _ _ _ H1.2).le ⟨Nat.le_refl _, Nat.le_refl _⟩)
    | (have H1 := ai_cnd H; exact (hk _ _ _ H1.2).le ⟨Nat.le_succ _, Nat.le_add_right _ _⟩)
    | (have H0 := (ai_cnd H).1; have H1 := (ai_cnd H).2; cases H1; exact ⟨⟨Nat.le_refl _, Nat.le_refl _⟩, fun b hb => ⟨hnt, by cases hb; exact H0⟩⟩)
    | (revert H; generalize Nat.beq (aux.headD 0) 1 = cb; intro H; cases cb <;> first | exact ai_Po.end H | (cases H; done))
    | (rcases ai_cnd2 H with H1 | H1 <;> first | exact ai_inv_po (ai_nt_x hnt) hk hrc H1 | exact hk _ _ _ (ai_cnd H1).2 | (cases H1; done))
theorem ai_ops_po {rc : ai_Rec} {d mi nx : Nat} {r : (Option Value ⊕ Nat) × ai_Hp} (hrc : ∀ d mi b L st h r, rc d mi b L st h = some r → ai_Po mi h r) : ∀ (ops : List ai_Op) (L st : List Value) (h : ai_Hp), ops.all (ai_nt mi) = true → ai_ops rc d mi nx ops L st h = some r → ai_Po mi h r
  | [], L, st, h, _, H => hrc _ _ _ _ _ _ _ H
  | op :: ops, L, st, h, hn, H => by
    simp only [List.all_cons, Bool.and_eq_true] at hn
    exact ai_step_po hn.1 (fun L st h1 H1 => ai_ops_po hrc ops L st h1 hn.2 H1) hrc H
theorem ai_code_nt (mi b : Nat) : (ai_code mi b).1.all (ai_nt mi) = true := by
  unfold ai_code
  cases hm : ai_prog[mi]? with
  | none => simp
  | some bs =>
    cases hb : bs[b]? with
    | none => simp [hb]
    | some bk =>
      have hlt : mi < 216 := (List.getElem?_eq_some_iff.mp hm).1
      have h1 := List.all_eq_true.mp ai_nt_all mi (List.mem_range.mpr hlt)
      rw [hm] at h1
      have h2 := List.all_eq_true.mp h1 bk (List.mem_of_getElem? hb)
      simpa [hb] using h2
theorem ai_ex_po : ∀ (n : Nat) {d mi b : Nat} {L st : List Value} {h : ai_Hp} {r : (Option Value ⊕ Nat) × ai_Hp}, ai_ex n d mi b L st h = some r → ai_Po mi h r
  | 0, d, mi, b, L, st, h, r, H => by cases H
  | n + 1, d, mi, b, L, st, h, r, H => ai_ops_po (rc := ai_ex n) (fun d mi b L st h r H => ai_ex_po n H) _ _ st h (ai_code_nt mi b) H
