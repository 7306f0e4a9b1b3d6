/-! the machine without fuel: ai_run is what ai_ex comes to -/
theorem ai_back_ev {rc : Nat → ai_Rec} {run : ai_Rec} (hrc : ∀ d mi b L st h r, run d mi b L st h = some r → ∃ n, ∀ m, n ≤ m → rc m d mi b L st h = some r) {km : Nat → ai_K} {k : ai_K} {r : (Option Value ⊕ Nat) × ai_Hp} (hk : ∀ L st h, k L st h = some r → ∃ n, ∀ m, n ≤ m → km m L st h = some r) {xm : Nat → ai_Res} {x : ai_Res} (hx : ∀ r, x = some r → ∃ n, ∀ m, n ≤ m → xm m = some r) {d mi hd : Nat} {L rs : List Value} (H : ai_back run d mi hd L rs k x = some r) : ∃ n, ∀ m, n ≤ m → ai_back (rc m) d mi hd L rs (km m) (xm m) = some r := by
  cases x with
  | none => simp [ai_back] at H
  | some q =>
    obtain ⟨n1, h1⟩ := hx q rfl
    obtain ⟨o, h⟩ := q
    cases o with
    | inl v =>
      cases v with
      | none =>
        obtain ⟨n2, h2⟩ := hk _ _ _ H
        exact ⟨max n1 n2, fun m hm => by rw [h1 m (by omega)]; exact h2 m (by omega)⟩
      | some v =>
        obtain ⟨n2, h2⟩ := hk _ _ _ H
        exact ⟨max n1 n2, fun m hm => by rw [h1 m (by omega)]; exact h2 m (by omega)⟩
    | inr a =>
      cases hb : Nat.beq hd 0 with
      | true =>
        simp only [ai_back, hb, cond_true] at H
        exact ⟨n1, fun m hm => by rw [h1 m hm]; simp only [ai_back, hb, cond_true]; exact H⟩
      | false =>
        simp only [ai_back, hb, cond_false] at H
        obtain ⟨n2, h2⟩ := hrc _ _ _ _ _ _ _ H
        exact ⟨max n1 n2, fun m hm => by rw [h1 m (by omega)]; simp only [ai_back, hb, cond_false]; exact h2 m (by omega)⟩
theorem ai_inv_ev {rc : Nat → ai_Rec} {run : ai_Rec} (hrc : ∀ d mi b L st h r, run d mi b L st h = some r → ∃ n, ∀ m, n ≤ m → rc m d mi b L st h = some r) {km : Nat → ai_K} {k : ai_K} {r : (Option Value ⊕ Nat) × ai_Hp} (hk : ∀ L st h, k L st h = some r → ∃ n, ∀ m, n ≤ m → km m L st h = some r) {d mi cal n0 ci hd : Nat} {L st : List Value} {h : ai_Hp} (H : ai_inv run d mi cal n0 ci hd L st h k = some r) : ∃ n, ∀ m, n ≤ m → ai_inv (rc m) d mi cal n0 ci hd L st h (km m) = some r := by
  cases d with
  | zero => simp [ai_inv] at H
  | succ e =>
    unfold ai_inv at H ⊢
    dsimp only at H ⊢
    revert H
    generalize (Nat.ble n0 st.length && (ai_fr h.2.1 L && (ai_fr h.2.1 (st.drop n0) && (Nat.ble (ai_wt (st.drop n0)) 8 && (ai_rcv h ci (st.take n0).reverse && Nat.beq L.length (ai_mx mi)))))) = cb
    intro H
    cases cb with
    | false => simp at H
    | true =>
      simp only [cond_true] at H ⊢
      refine ai_back_ev hrc hk ?_ H
      intro q hq
      cases hc : Nat.ble 300 cal with
      | true => rw [hc] at hq; exact ⟨0, fun _ _ => hq⟩
      | false =>
        rw [hc] at hq
        simp only [cond_false] at hq ⊢
        exact hrc _ _ _ _ _ _ _ hq
theorem ai_cond_ev {xm : Nat → ai_Res} {x : ai_Res} {b : Bool} {r : (Option Value ⊕ Nat) × ai_Hp} (hx : x = some r → ∃ n, ∀ m, n ≤ m → xm m = some r) (H : cond b x none = some r) : ∃ n, ∀ m, n ≤ m → cond b (xm m) none = some r := by
  cases b with
  | true => exact hx H
  | false => cases H
theorem ai_cond2_ev {xm ym : Nat → ai_Res} {x y : ai_Res} {b : Bool} {r : (Option Value ⊕ Nat) × ai_Hp} (hx : x = some r → ∃ n, ∀ m, n ≤ m → xm m = some r) (hy : y = some r → ∃ n, ∀ m, n ≤ m → ym m = some r) (H : cond b x y = some r) : ∃ n, ∀ m, n ≤ m → cond b (xm m) (ym m) = some r := by
  cases b with
  | true => exact hx H
  | false => exact hy H
set_option maxHeartbeats 4000000 in
theorem ai_step_ev {rc : Nat → ai_Rec} {run : ai_Rec} (hrc : ∀ d mi b L st h r, run d mi b L st h = some r → ∃ n, ∀ m, n ≤ m → rc m d mi b L st h = some r) {km : Nat → ai_K} {k : ai_K} {r : (Option Value ⊕ Nat) × ai_Hp} (hk : ∀ L st h, k L st h = some r → ∃ n, ∀ m, n ≤ m → km m L st h = some r) {d mi : Nat} {op : ai_Op} {L st : List Value} {h : ai_Hp} (H : ai_step run d mi op L st h k = some r) : ∃ n, ∀ m, n ≤ m → ai_step (rc m) d mi op L st h (km m) = some r := by
  obtain ⟨ins, aux, cc⟩ := op
  cases ins
  all_goals dsimp only [ai_step, ai_ldI, ai_ldL, ai_ldA, ai_stI, ai_stL, ai_stA, ai_bin, ai_binL, ai_un1, ai_call, ai_spec, ai_br] at H ⊢
  all_goals first
    | (cases H; done)
    | exact hk _ _ _ H
    | exact hrc _ _ _ _ _ _ _ H
    | exact ⟨0, fun _ _ => H⟩
    | exact ai_inv_ev hrc hk H
    | skip
  all_goals (repeat' (split at H))
  all_goals first
    | (cases H; done)
    | exact hk _ _ _ H
    | exact hrc _ _ _ _ _ _ _ H
    | exact ⟨0, fun _ _ => H⟩
    | exact ai_inv_ev hrc hk H
    | skip
  all_goals first
    | exact ai_cond_ev (hk _ _ _) H
    | (rename_i hc; simp only [if_pos hc]; first | exact hk _ _ _ H | exact hrc _ _ _ _ _ _ _ H)
    | (rename_i hc; simp only [if_neg hc]; first | exact hk _ _ _ H | exact hrc _ _ _ _ _ _ _ H)
    | exact ai_cond2_ev (ai_cond_ev (hk _ _ _)) (ai_inv_ev hrc hk) H
    | exact ai_cond2_ev (fun h => by cases h) (ai_inv_ev hrc hk) H
theorem ai_ops_ev {rc : Nat → ai_Rec} {run : ai_Rec} (hrc : ∀ d mi b L st h r, run d mi b L st h = some r → ∃ n, ∀ m, n ≤ m → rc m d mi b L st h = some r) {d mi nx : Nat} {r : (Option Value ⊕ Nat) × ai_Hp} : ∀ (ops : List ai_Op) (L st : List Value) (h : ai_Hp), ai_ops run d mi nx ops L st h = some r → ∃ n, ∀ m, n ≤ m → ai_ops (rc m) d mi nx ops L st h = some r
  | [], L, st, h, H => hrc _ _ _ _ _ _ _ H
  | op :: ops, L, st, h, H => ai_step_ev hrc (km := fun m L st h => ai_ops (rc m) d mi nx ops L st h) (fun L st h H => ai_ops_ev hrc ops L st h H) H
theorem ai_ex_mono : ∀ (n : Nat) {d mi b : Nat} {L st : List Value} {h : ai_Hp} {r : (Option Value ⊕ Nat) × ai_Hp}, ai_ex n d mi b L st h = some r → ai_ex (n + 1) d mi b L st h = some r
  | 0, d, mi, b, L, st, h, r, H => by cases H
  | n + 1, d, mi, b, L, st, h, r, H => by
    obtain ⟨k, hk⟩ := ai_ops_ev (rc := fun _ => ai_ex (n + 1)) (run := ai_ex n) (fun d mi b L st h r H => ⟨0, fun _ _ => ai_ex_mono n H⟩) (ai_code mi b).1 _ st h H
    exact hk k (Nat.le_refl k)
theorem ai_ex_le {n m : Nat} (hm : n ≤ m) {d mi b : Nat} {L st : List Value} {h : ai_Hp} {r : (Option Value ⊕ Nat) × ai_Hp} (H : ai_ex n d mi b L st h = some r) : ai_ex m d mi b L st h = some r := by
  induction m with
  | zero => rw [Nat.le_zero.mp hm] at H; exact H
  | succ m ih =>
    rcases Nat.lt_or_ge n (m + 1) with q | q
    · exact ai_ex_mono m (ih (by omega))
    · rw [show m + 1 = n by omega]; exact H
noncomputable def ai_run : ai_Rec := fun d mi b L st h => @dite _ (∃ (n : Nat) (r : (Option Value ⊕ Nat) × ai_Hp), ai_ex n d mi b L st h = some r) (Classical.propDecidable _) (fun q => some q.choose_spec.choose) (fun _ => none)
theorem ai_run_iff {d mi b : Nat} {L st : List Value} {h : ai_Hp} {r : (Option Value ⊕ Nat) × ai_Hp} : ai_run d mi b L st h = some r ↔ ∃ n, ai_ex n d mi b L st h = some r := by
  unfold ai_run
  constructor
  · intro H
    split at H
    · rename_i q
      exact ⟨q.choose, by rw [q.choose_spec.choose_spec]; exact H⟩
    · cases H
  · intro H
    obtain ⟨n, hn⟩ := H
    have q : ∃ (n : Nat) (r : (Option Value ⊕ Nat) × ai_Hp), ai_ex n d mi b L st h = some r := ⟨n, r, hn⟩
    rw [dif_pos q]
    have h1 := ai_ex_le (Nat.le_max_left n q.choose) hn
    have h2 := ai_ex_le (Nat.le_max_right n q.choose) q.choose_spec.choose_spec
    exact h2.symm.trans h1
theorem ai_run_eq (d mi b : Nat) (L st : List Value) (h : ai_Hp) : ai_run d mi b L st h = ai_blk ai_run d mi b L st h := by
  have one : ∀ r, ai_run d mi b L st h = some r → ai_blk ai_run d mi b L st h = some r := by
    intro r H
    obtain ⟨n, hn⟩ := ai_run_iff.mp H
    cases n with
    | zero => cases hn
    | succ n =>
      obtain ⟨k, hk⟩ := ai_ops_ev (rc := fun _ => ai_run) (run := ai_ex n) (fun d mi b L st h r H => ⟨0, fun _ _ => ai_run_iff.mpr ⟨n, H⟩⟩) (ai_code mi b).1 _ st h hn
      exact hk k (Nat.le_refl k)
  have two : ∀ r, ai_blk ai_run d mi b L st h = some r → ai_run d mi b L st h = some r := by
    intro r H
    obtain ⟨k, hk⟩ := ai_ops_ev (rc := ai_ex) (run := ai_run) (fun d mi b L st h r H => by
      obtain ⟨n, hn⟩ := ai_run_iff.mp H
      exact ⟨n, fun m hm => ai_ex_le hm hn⟩) (ai_code mi b).1 _ st h H
    exact ai_run_iff.mpr ⟨k + 1, hk k (Nat.le_refl k)⟩
  cases hr : ai_run d mi b L st h with
  | some r => exact (one r hr).symm
  | none =>
    cases hb : ai_blk ai_run d mi b L st h with
    | none => rfl
    | some r => rw [two r hb] at hr; cases hr
