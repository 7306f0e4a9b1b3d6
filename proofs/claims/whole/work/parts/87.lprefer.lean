/-! lodgings: the lesser rooms -/
theorem fl_31 {d : Nat} {al : Nat × Nat} {kl R r : Nat} {π : Nat → Nat} {M : Nat → Nat → Int32} (hR : R ≤ 10) (hπ : fd_pm R π) (hr : r < R) (h33 : M 33 2 = nI R) (h34 : ∀ s, s < R → M 34 s = nI (π s)) : ∀ (m t : Nat) (x : Int32), t + m = R → ((∃ j, j < t ∧ π j = r ∧ x = nI j) ∨ ∀ j, j < t → π j ≠ r) → ∃ s, s < R ∧ π s = r ∧ ai_run d 31 1 [.ref 33, .int (nI r), .int x, .int (nI t)] [] (hC al kl M) = some (.inl (some (.int (nI s))), hC al kl M)
  | 0, t, x, ht, hx => by
    have e : t = R := by omega
    rcases hx with ⟨j, j1, j2, j3⟩ | h
    · exact ⟨j, by omega, j2, by rw [bq_31_1, h33, e, if_pos Int32.le_rfl, bq_31_3, j3]⟩
    · obtain ⟨s, s1, s2⟩ := hπ.on hr
      exact absurd s2 (h s (by omega))
  | m + 1, t, x, ht, hx => by
    have hπt := hπ.1 t (by omega)
    rw [bq_31_1, h33, if_neg (nI_ge (by omega) (by omega)), fi_in (by omega), decide_eq_true (by omega), cond_true, nI_clamp (by omega), h34 t (by omega)]
    by_cases c : π t = r
    · obtain ⟨s, s1, s2, s3⟩ := fl_31 (d := d) (al := al) (kl := kl) hR hπ hr h33 h34 m (t + 1) (nI t) (by omega) (Or.inl ⟨t, by omega, c, rfl⟩)
      exact ⟨s, s1, s2, by rw [if_pos (by rw [c]), bq_31_2, nI_1, s3]⟩
    · obtain ⟨s, s1, s2, s3⟩ := fl_31 (d := d) (al := al) (kl := kl) hR hπ hr h33 h34 m (t + 1) x (by omega) (by
        rcases hx with ⟨j, j1, j2, j3⟩ | h
        · exact Or.inl ⟨j, by omega, j2, j3⟩
        · exact Or.inr (fun j hj => by
            by_cases e : j = t
            · rw [e]; exact c
            · exact h j (by omega)))
      exact ⟨s, s1, s2, by rw [if_neg (fun z => c ((nI_eq (by omega) (by omega)).mp z)), bq_31_2, nI_1, s3]⟩
theorem fw_31 {d : Nat} {al : Nat × Nat} {kl R r : Nat} {π : Nat → Nat} {M : Nat → Nat → Int32} (hR : R ≤ 10) (hπ : fd_pm R π) (hr : r < R) (h33 : M 33 2 = nI R) (h34 : ∀ s, s < R → M 34 s = nI (π s)) {v2 v3 : Value} : ∃ s, s < R ∧ π s = r ∧ ai_run d 31 0 [.ref 33, .int (nI r), v2, v3] [] (hC al kl M) = some (.inl (some (.int (nI s))), hC al kl M) := by
  rw [bq_31_0]
  exact fl_31 hR hπ hr h33 h34 R 0 0 (by omega) (Or.inr (fun j hj => absurd hj (Nat.not_lt_zero _)))
def fd_L (M M' : Nat → Nat → Int32) : Prop := (∀ a, a ≠ 33 → a ≠ 40 → a ≠ 43 → a ≠ 44 → M' a = M a) ∧ M' 33 2 = M 33 2
theorem fd_L.tr {M M' M'' : Nat → Nat → Int32} (h : fd_L M M') (h' : fd_L M' M'') : fd_L M M'' := ⟨fun a a1 a2 a3 a4 => (h'.1 a a1 a2 a3 a4).trans (h.1 a a1 a2 a3 a4), h'.2.trans h.2⟩
theorem fd_K.L {M M' : Nat → Nat → Int32} (h : fd_K M M') : fd_L M M' := ⟨h.1, h.2 2 (by decide)⟩
theorem fd_T.L {A : fd_A} {wc : Bool} {o : Nat → Nat} {M M' : Nat → Nat → Int32} (h : fd_T A wc o M) (k : fd_L M M') : fd_T A wc o M' := by
  unfold fd_T
  rw [k.1 4 (by decide) (by decide) (by decide) (by decide), k.1 5 (by decide) (by decide) (by decide) (by decide), k.1 8 (by decide) (by decide) (by decide) (by decide), k.1 35 (by decide) (by decide) (by decide) (by decide), k.1 36 (by decide) (by decide) (by decide) (by decide), k.1 37 (by decide) (by decide) (by decide) (by decide), k.1 38 (by decide) (by decide) (by decide) (by decide), k.1 39 (by decide) (by decide) (by decide) (by decide), k.1 41 (by decide) (by decide) (by decide) (by decide), k.1 42 (by decide) (by decide) (by decide) (by decide), k.2]
  exact h
theorem fd_search' {al : Nat × Nat} {kl en : Nat} {A : fd_A} {wc : Bool} {o : Nat → Nat} (hen' : en ≤ 1000001) {D m : Nat} (h : m + 3 ≤ D) : fd_Hs al kl A wc o en D m := by
  have := fd_search (al := al) (kl := kl) (A := A) (wc := wc) (o := o) hen' m (D - m - 3)
  rw [show D - m - 3 + m + 3 = D by omega] at this
  exact this
/-- those from h on are still to come -/
def fd_tl (n h T : Nat) : Prop := ∀ k, T.testBit k = decide (h ≤ k ∧ k < n)
theorem fd_tl.rm {n h T : Nat} (H : fd_tl n h T) : fd_tl n (h + 1) (fd_rm T h) := fun k => by
  rw [fd_rm_b, H k]
  by_cases e : k = h
  · rw [decide_eq_false (show ¬ k ≠ h from fun z => z e), Bool.and_false, decide_eq_false (by omega)]
  · rw [decide_eq_true e, Bool.and_true]
    exact decide_eq_decide.mpr (by omega)
theorem fd_tl.f {n h T k : Nat} (H : fd_tl n h T) (hk : k < n) : T.testBit k = false ↔ k < h := by
  rw [H k, decide_eq_false_iff_not]
  omega
theorem fd_tl.ct {n h T : Nat} (H : fd_tl n h T) (hh : h ≤ n) : fd_ct n T = n - h := by
  have key : ∀ m, m ≤ n → fd_su (fun k => if T.testBit k then 1 else 0) m = m - h := fun m => by
    induction m with
    | zero => intro _; show 0 = 0 - h; omega
    | succ m ih =>
      intro hm
      show fd_su (fun k => if T.testBit k then 1 else 0) m + (if T.testBit m then 1 else 0) = m + 1 - h
      rw [ih (by omega), H m]
      by_cases e : h ≤ m
      · rw [decide_eq_true (by omega), if_pos rfl]; omega
      · rw [decide_eq_false (by omega), if_neg (by decide)]; omega
  exact key n (Nat.le_refl _)
/-- the state before household h is looked at -/
def fd_Q (A : fd_A) (wc : Bool) (o : Nat → Nat) (h T least : Nat) (c b : Nat → Nat) (M : Nat → Nat → Int32) : Prop := fd_T A wc o M ∧ fd_tl A.1 h T ∧ fd_Ok A wc T c ∧ (∀ k, k < A.1 → T.testBit k = false → M 43 k = nI (c k)) ∧ fd_O A wc T h c (M 40) ∧ fd_Cp A wc T c b ∧ fd_S A b = least ∧ ∀ k, k < A.1 → M 44 k = nI (b k)
theorem fl_30 {D : Nat} {al : Nat × Nat} {kl h T least : Nat} {A : fd_A} {wc : Bool} {o c b π : Nat → Nat} (hD : A.1 + 3 ≤ D) (hh : h < A.1) (hl : least ≤ 1000000) (hmin : ∀ a, fd_Vs A wc a → least ≤ fd_S A a) (hπ : fd_pm A.2.1 π) : ∀ (m r : Nat) (M : Nat → Nat → Int32) (v7 : Value), r + m = π (b h) → fd_Q A wc o h T least c b M → (∀ s, s < A.2.1 → M 34 s = nI (π s)) → (∀ a, fd_Cp A wc T c a → fd_S A a = least → r ≤ π (a h)) → ∃ (M' : Nat → Nat → Int32) (b' : Nat → Nat), ai_run (D + 1) 30 1 [.ref 33, .int (nI h), .int (nI (fd_rm T h)), .int (nI (fd_pt A T c)), .int (nI least), .int (nI (π (b h))), .int (nI r), v7] [] (hC al kl M) = some (.inl none, hC al kl M') ∧ fd_L M M' ∧ fd_Q A wc o h T least c b' M' ∧ ∀ a, fd_Cp A wc T c a → fd_S A a = least → π (b' h) ≤ π (a h)
  | 0, r, M, v7, hr, hQ, h34, hlow => by
    have e : r = π (b h) := by omega
    refine ⟨M, b, ?_, ⟨fun _ _ _ _ _ => rfl, rfl⟩, hQ, fun a ha hs => by rw [← e]; exact hlow a ha hs⟩
    rw [bq_30_1, e, if_pos Int32.le_rfl, bq_30_6]
  | m + 1, r, M, v7, hr, hQ, h34, hlow => by
    obtain ⟨q1, q2, q3, q4, q5, q6, q7, q8⟩ := id hQ
    obtain ⟨⟨z1, z2, z3, z4, zy, zo⟩, zh, zw, zk, zr⟩ := id q1
    have hbR := (q6.1 h hh).1
    have hπb := hπ.1 _ hbR
    have hTh : T.testBit h = true := by rw [q2 h]; exact decide_eq_true ⟨Nat.le_refl _, hh⟩
    have hTn : ∀ k, T.testBit k = true → k < A.1 := fun k hk => by rw [q2 k] at hk; exact (of_decide_eq_true hk).2
    have hT := fd_lt8 z1 hTn
    obtain ⟨s, s1, s2, s3⟩ := fw_31 (d := D) (al := al) (kl := kl) (v2 := ai_un) (v3 := ai_un) z2 hπ (show r < A.2.1 by omega) z4 h34
    obtain ⟨u, u1, u2, u3⟩ := q5 h hh hTh
    have eix : nI h * 8 + nI h = nI (8 * h + h) := by rw [show (8 : Int32) = nI 8 from rfl, pk_mul, nI_add, Nat.mul_comm]
    have i72 : ai_in (nI (8 * h + h)) 72 = true := by rw [fi_in (by omega)]; exact decide_eq_true (by omega)
    have hsame : ∀ a, fd_Cp A wc T c a → π (a h) = r → a h = s := fun a ha e => hπ.inj (ha.1 h hh).1 s1 (e.trans s2.symm)
    have run1 : ai_run (D + 1) 30 1 [.ref 33, .int (nI h), .int (nI (fd_rm T h)), .int (nI (fd_pt A T c)), .int (nI least), .int (nI (π (b h))), .int (nI r), v7] [] (hC al kl M) = ai_run (D + 1) 30 2 [.ref 33, .int (nI h), .int (nI (fd_rm T h)), .int (nI (fd_pt A T c)), .int (nI least), .int (nI (π (b h))), .int (nI r), ai_un] [.int (nI s)] (hC al kl M) := by
      rw [bq_30_1, if_neg (nI_ge (by omega) (by omega)), s3, fb_s]
    rw [run1, bq_30_2, eix, i72, cond_true, nI_clamp (n := 8 * h + h) (by omega), u2]
    cases ht : u.testBit s with
    | false =>
      obtain ⟨M', b', p1, p2⟩ := fl_30 (D := D) (al := al) (kl := kl) hD hh hl hmin hπ m (r + 1) M ai_un (by omega) hQ h34 (fun a ha hs => by
        have h1 := hlow a ha hs
        by_cases e : π (a h) = r
        · exfalso
          have := (u3 s (by omega)).mpr (by rw [← hsame a ha e]; exact ha.op hh hTh)
          rw [ht] at this
          exact absurd this (by decide)
        · omega)
      refine ⟨M', b', ?_, p2⟩
      rw [if_neg (fun z => by rw [fd_t1 u1 (by omega), ht] at z; exact absurd z (by decide)), bq_30_5, nI_1, p1]
    | true =>
      have hop := (u3 s (by omega)).mp ht
      have hL1 : fd_L M (ai_up (ai_up M 33 14 (nI least + 1)) 33 15 (nI least)) := ⟨fun a a1 _ _ _ => by rw [fu_row a1, fu_row a1], rfl⟩
      have hz1 : fd_T A wc o (ai_up (ai_up M 33 14 (nI least + 1)) 33 15 (nI least)) := q1
      obtain ⟨M1, g1, g2, g3, g4, g5, g6⟩ := fw_28 (d := D) (al := al) (kl := kl) (c := c) (s := s) (dep := h) hT (by omega) hh hTh s1 hz1 q5 q4
      have e33 : ∀ j, M1 33 j = (ai_up (ai_up M 33 14 (nI least + 1)) 33 15 (nI least)) 33 j := fun j => by rw [g2 33 (by decide) (by decide)]
      have hK1 : fd_K (ai_up (ai_up M 33 14 (nI least + 1)) 33 15 (nI least)) M1 := ⟨fun a a1 a2 a3 a4 => g2 a a2 a3, fun j _ => e33 j⟩
      have e14 : (ai_up (ai_up M 33 14 (nI least + 1)) 33 15 (nI least)) 33 14 = nI (least + 1) := by rw [fu_ne (by decide), fu_at, nI_1]
      have e15 : (ai_up (ai_up M 33 14 (nI least + 1)) 33 15 (nI least)) 33 15 = nI least := fu_at
      have hct : fd_ct A.1 (fd_rm T h) = A.1 - (h + 1) := q2.rm.ct (by omega)
      obtain ⟨M2, lim', w1, k1, k2, k3, k4, k5, k6⟩ := fd_search' (al := al) (kl := kl) (A := A) (wc := wc) (o := o) (en := least) (D := D) (m := A.1 - (h + 1)) (by omega) (by omega) (fd_rm T h) (h + 1) (fd_u c h s) M1 (least + 1) (hz1.K hK1) (by rw [e33]; exact e14) (by omega) (by rw [e33]; exact e15) (fd_rm_n hTn) hct (by omega) (q3.rm zy hh hop) g5 g6
      have hL2 : fd_L M M2 := hL1.tr (hK1.L.tr k1.L)
      have i8 : ai_in (nI h) 8 = true := by rw [fi_in (by omega)]; exact decide_eq_true (by omega)
      have i10 : ai_in (nI s) 10 = true := by rw [fi_in (by omega)]; exact decide_eq_true (by omega)
      have hzM1 := hz1.K hK1
      have run2 : (if ((nI u >>> (nI s &&& 31)) &&& (1 : Int32)) = 1 then ai_back ai_run (D + 1) 30 0 [.ref 33, .int (nI h), .int (nI (fd_rm T h)), .int (nI (fd_pt A T c)), .int (nI least), .int (nI (π (b h))), .int (nI r), .int (nI s)] [] (fun L st h => ai_run (D + 1) 30 3 L st h) (ai_run D 28 0 [.ref 33, .int (nI h), .int (nI h), .int (nI s), .int (nI (fd_rm T h)), ai_un, ai_un, ai_un] [] (hC al kl (ai_up (ai_up M 33 14 (nI least + 1)) 33 15 (nI least)))) else ai_run (D + 1) 30 5 [.ref 33, .int (nI h), .int (nI (fd_rm T h)), .int (nI (fd_pt A T c)), .int (nI least), .int (nI (π (b h))), .int (nI r), .int (nI s)] [] (hC al kl M)) = ai_run (D + 1) 30 4 [.ref 33, .int (nI h), .int (nI (fd_rm T h)), .int (nI (fd_pt A T c)), .int (nI least), .int (nI (π (b h))), .int (nI r), .int (nI s)] [] (hC al kl M2) := by
        rw [if_pos ((fd_t1 u1 (by omega)).mpr ht), g1, fb_n, bq_30_3, i8, cond_true, i10, cond_true, nI_clamp (n := h) (by omega), nI_clamp (n := s) (by omega), (hzM1.2.1 h hh).2.1.1, (hzM1.2.2.2.2 s s1).1.1, pk_mul, nI_add, nI_1, ← fd_pt_rm hh hTh, w1, fb_n]
      have r43 : ∀ k, k < A.1 → T.testBit k = false → M2 43 k = nI (c k) := fun k hk hk' => by
        have hne : k ≠ h := fun e => by rw [e, hTh] at hk'; exact absurd hk' (by decide)
        rw [k4 k hk (fd_rm_f.mpr (Or.inl hk')), g4 k hne]
        exact q4 k hk hk'
      have r40 : fd_O A wc T h c (M2 40) := fun k hk hk' => by
        rw [k3 _ (by omega), g3 _ (by omega)]
        exact q5 k hk hk'
      refine run2.symm ▸ ?_
      rw [bq_30_4, k2]
      by_cases e : lim' = least
      · rcases k5 with ⟨f1, -⟩ | ⟨f1, a, f2, f3, f4⟩
        · omega
        · have ha := (fd_Cp.rm hh hTh).mp f2
          refine ⟨M2, a, by rw [if_pos (by rw [e])], hL2, ⟨q1.L hL2, q2, q3, r43, r40, ha.1, f3.trans e, f4⟩, fun a' ha' hs' => ?_⟩
          rw [ha.2, s2]
          exact hlow a' ha' hs'
      · have hlim : lim' = least + 1 ∧ M2 44 = M1 44 := by
          rcases k5 with g | ⟨f1, a, f2, f3, -⟩
          · exact g
          · have := hmin a f2.1
            omega
        have e44 : M2 44 = M 44 := by rw [hlim.2, g2 44 (by decide) (by decide)]; rfl
        have e34 : M2 34 = M 34 := hL2.1 34 (by decide) (by decide) (by decide) (by decide)
        obtain ⟨M', b', p1, p2, p3, p4⟩ := fl_30 (D := D) (al := al) (kl := kl) hD hh hl hmin hπ m (r + 1) M2 ai_un (by omega) ⟨q1.L hL2, q2, q3, r43, r40, q6, q7, fun k hk => by rw [e44]; exact q8 k hk⟩ (fun s hs => by rw [e34]; exact h34 s hs) (fun a ha hs => by
          have h1 := hlow a ha hs
          by_cases er : π (a h) = r
          · exfalso
            have h2 := k6 a ((fd_Cp.rm hh hTh).mpr ⟨ha, hsame a ha er⟩) trivial
            omega
          · omega)
        refine ⟨M', b', ?_, hL2.tr p2, p3, p4⟩
        rw [if_neg (fun z => e ((nI_eq (by omega) (by omega)).mp z)), bq_30_5, nI_1, p1]
theorem fl_29 {D : Nat} {al : Nat × Nat} {kl least : Nat} {A : fd_A} {wc : Bool} {o π : Nat → Nat} (hD : A.1 + 3 ≤ D) (hl : least ≤ 1000000) (hmin : ∀ a, fd_Vs A wc a → least ≤ fd_S A a) (hπ : fd_pm A.2.1 π) : ∀ (m h T : Nat) (M : Nat → Nat → Int32) (c b : Nat → Nat), h + m = A.1 → fd_Q A wc o h T least c b M → (∀ s, s < A.2.1 → M 34 s = nI (π s)) → (∀ j, j < h → ∀ a, fd_Vs A wc a → fd_S A a = least → (∀ i, i < j → a i = c i) → π (c j) ≤ π (a j)) → ∃ (M' : Nat → Nat → Int32) (b' : Nat → Nat), ai_run (D + 2) 29 2 [.ref 33, .int (nI least), .int (nI T), .int (nI (fd_pt A T c)), .int (nI h)] [] (hC al kl M) = some (.inl none, hC al kl M') ∧ fd_L M M' ∧ fd_Vs A wc b' ∧ fd_S A b' = least ∧ (∀ k, k < A.1 → M' 44 k = nI (b' k)) ∧ ∀ j, j < A.1 → ∀ a, fd_Vs A wc a → fd_S A a = least → (∀ i, i < j → a i = b' i) → π (b' j) ≤ π (a j)
  | 0, h, T, M, c, b, hm, hQ, h34, hlex => by
    obtain ⟨q1, q2, q3, q4, q5, q6, q7, q8⟩ := hQ
    have e : h = A.1 := by omega
    subst e
    have hbc : ∀ k, k < A.1 → b k = c k := fun k hk => q6.2 k hk ((q2.f hk).mpr hk)
    refine ⟨M, b, ?_, ⟨fun _ _ _ _ _ => rfl, rfl⟩, q6.1, q7, q8, fun j hj a ha hs hp => ?_⟩
    · rw [bq_29_2, q1.1.2.2.1, if_pos Int32.le_rfl, bq_29_5]
    · rw [hbc j hj]
      exact hlex j hj a ha hs (fun i hi => by rw [hp i hi, hbc i (by omega)])
  | m + 1, h, T, M, c, b, hm, hQ, h34, hlex => by
    obtain ⟨q1, q2, q3, q4, q5, q6, q7, q8⟩ := id hQ
    obtain ⟨z1, z2, z3, z4, zy, zo⟩ := q1.1
    have hh : h < A.1 := by omega
    have hbR := (q6.1 h hh).1
    have hTh : T.testBit h = true := by rw [q2 h]; exact decide_eq_true ⟨Nat.le_refl _, hh⟩
    have hTn : ∀ k, T.testBit k = true → k < A.1 := fun k hk => by rw [q2 k] at hk; exact (of_decide_eq_true hk).2
    have hT := fd_lt8 z1 hTn
    have i8 : ai_in (nI h) 8 = true := by rw [fi_in (by omega)]; exact decide_eq_true (by omega)
    have i10 : ai_in (nI (b h)) 10 = true := by rw [fi_in (by omega)]; exact decide_eq_true (by omega)
    obtain ⟨M1, b1, p1, p2, p3, p4⟩ := fl_30 (D := D) (al := al) (kl := kl) hD hh hl hmin hπ (π (b h)) 0 M ai_un (by omega) hQ h34 (fun a _ _ => Nat.zero_le _)
    have w30 : ai_run (D + 1) 30 0 [.ref 33, .int (nI h), .int (nI (fd_rm T h)), .int (nI (fd_pt A T c)), .int (nI least), ai_un, ai_un, ai_un] [] (hC al kl M) = some (.inl none, hC al kl M1) := by
      rw [bq_30_0, i8, cond_true, nI_clamp (n := h) (by omega), q8 h hh, i10, cond_true, nI_clamp (n := b h) (by omega), h34 (b h) hbR]
      exact p1
    obtain ⟨r1, r2, r3, r4, r5, r6, r7, r8⟩ := id p3
    have hb1R := (r6.1 h hh).1
    obtain ⟨M2, g1, g2, g3, g4, g5, g6⟩ := fw_28 (d := D + 1) (al := al) (kl := kl) (c := c) (s := b1 h) (dep := h) hT (by omega) hh hTh hb1R r1 r5 r4
    have hK2 : fd_K M1 M2 := ⟨fun a a1 a2 a3 a4 => g2 a a2 a3, fun j _ => by rw [g2 33 (by decide) (by decide)]⟩
    have hL2 : fd_L M M2 := p2.tr hK2.L
    have e34 : M2 34 = M 34 := hL2.1 34 (by decide) (by decide) (by decide) (by decide)
    have e44 : M2 44 = M1 44 := g2 44 (by decide) (by decide)
    have hop := r6.op hh hTh
    have hz2 := r1.K hK2
    obtain ⟨M', b', s1, s2, s3⟩ := fl_29 (D := D) (al := al) (kl := kl) hD hl hmin hπ m (h + 1) (fd_rm T h) M2 (fd_u c h (b1 h)) b1 (by omega) ⟨hz2, q2.rm, q3.rm zy hh hop, g5, g6, (fd_Cp.rm hh hTh).mpr ⟨r6, rfl⟩, r7, fun k hk => by rw [e44]; exact r8 k hk⟩ (fun s hs => by rw [e34]; exact h34 s hs) (fun j hj a ha hs hp => by
      by_cases e : j = h
      · subst e
        rw [fd_u_s]
        refine p4 a ⟨ha, fun i hi hi' => ?_⟩ hs
        have := (q2.f hi).mp hi'
        rw [hp i this, fd_u_n (by omega)]
      · rw [fd_u_n e]
        exact hlex j (by omega) a ha hs (fun i hi => by rw [hp i hi, fd_u_n (by omega)]))
    refine ⟨M', b', ?_, hL2.tr s2, s3⟩
    have i10' : ai_in (nI (b1 h)) 10 = true := by rw [fi_in (by omega)]; exact decide_eq_true (by omega)
    rw [bq_29_2, z3, if_neg (nI_ge hh (by omega)), fd_p2 h (by omega), fd_no]
    have er : T &&& (T ^^^ 2 ^ h) = fd_rm T h := rfl
    rw [er, w30, fb_n, bq_29_3, i8, cond_true, nI_clamp (n := h) (by omega), r8 h hh, g1, fb_n, bq_29_4, i8, cond_true, cond_true, nI_clamp (n := h) (by omega), show M2 44 h = nI (b1 h) by rw [e44]; exact r8 h hh, i10', cond_true, nI_clamp (n := b1 h) (by omega), (hz2.2.1 h hh).2.1.1, (hz2.2.2.2.2 _ hb1R).1.1, pk_mul, nI_add, ← fd_pt_rm hh hTh, nI_1, s1]
