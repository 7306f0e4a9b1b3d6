/-! all calls, and the start -/
def fx_Inv (c : Nat) (h h' : ai_Hp) : Prop := ∃ (al : Nat × Nat) (kl mk : Nat) (M MM : Nat → Nat → Int32) (N : Nat → Nat → Int64) (n np t : Nat), h = hC al kl M ∧ h' = hM (42, 106418) MM N ∧ fn_J c al kl mk M ∧ fn_I n np t M MM
def fx_P (cse : lw_C) : Prop := ∀ (t : Nat) (h h' : ai_Hp) (f : Nat → Int32), t < 512 → fx_Inv t h h' → ∃ (v : Int32) (h1 h1' : ai_Hp), ai_run 200 cse.2.2.1.2.1 0 (ai_ent (ai_mx cse.2.2.1.2.1) (.ref 0 :: cse.2.1.map (fun a => Value.int (lw_v f a)))) [] h = some (.inl (some (.int v)), h1) ∧ ai_run 200 cse.2.2.2.2.1 0 (ai_ent (ai_mx cse.2.2.2.2.1) (.ref 0 :: cse.2.1.map (fun a => Value.int (lw_v f a)))) [] h' = some (.inl (some (.int v)), h1') ∧ fx_Inv (t + 1) h1 h1'
theorem fx_of {cse : lw_C} (key : ∀ (n np t : Nat) (M MM : Nat → Nat → Int32) (f : Nat → Int32), fn_I n np t M MM → fn_Y cse.2.2.1.2.1 cse.2.2.2.2.1 (cse.2.1.map (fun a => Value.int (lw_v f a))) M MM) : fx_P cse := by
  rintro t h h' f ht ⟨al, kl, mk, M, MM, N, n, np, t', rfl, rfl, hJ, hI⟩
  obtain ⟨v, n1, np1, t1, M1, MM1, al1, kl1, mk1, N1, r1, r2, hJ1, hI1⟩ := key n np t' M MM f hI t al (42, 106418) kl mk N ht hJ
  exact ⟨v, _, _, r1, r2, al1, kl1, mk1, M1, MM1, N1, n1, np1, t1, rfl, rfl, hJ1, hI1⟩
theorem fx_v01 (f : Nat → Int32) (j : Nat) : lw_v f (j, true) = 0 ∨ lw_v f (j, true) = 1 := by
  by_cases h : f j = 0
  · exact Or.inl (if_pos h)
  · exact Or.inr (if_neg h)
theorem fx_all : ∀ cse, cse ∈ lw_cs → fx_P cse :=
  List.forall_mem_cons.mpr ⟨fx_of (fun _ _ _ _ _ _ h => (ft_105 h _ _ _).Y),
  List.forall_mem_cons.mpr ⟨fx_of (fun _ _ _ _ _ _ h => (ft_106 h _ _ _).Y),
  List.forall_mem_cons.mpr ⟨fx_of (fun _ _ _ _ _ _ h => (ft_107 h _ _ _).Y),
  List.forall_mem_cons.mpr ⟨fx_of (fun _ _ _ _ _ _ h => (ft_108 h _ _ _ _).Y),
  List.forall_mem_cons.mpr ⟨fx_of (fun _ _ _ _ _ _ h => (ft_109 h _ _ _).Y),
  List.forall_mem_cons.mpr ⟨fx_of (fun _ _ _ _ _ _ h => (ft_110 h _ _ _).Y),
  List.forall_mem_cons.mpr ⟨fx_of (fun _ _ _ _ _ _ h => (ft_111 h _ _).Y),
  List.forall_mem_cons.mpr ⟨fx_of (fun _ _ _ _ _ _ h => (ft_112 h _ _ _).Y),
  List.forall_mem_cons.mpr ⟨fx_of (fun _ _ _ _ _ _ h => (ft_113 h _ _ _ _ _).Y),
  List.forall_mem_cons.mpr ⟨fx_of (fun _ _ _ _ _ _ h => ft_114 h _ _),
  List.forall_mem_cons.mpr ⟨fx_of (fun _ _ _ _ _ _ h => (ft_115 h).Y),
  List.forall_mem_cons.mpr ⟨fx_of (fun _ _ _ _ _ _ h => (ft_116 h).Y),
  List.forall_mem_cons.mpr ⟨fx_of (fun _ _ _ _ _ _ h => (ft_117 h _).Y),
  List.forall_mem_cons.mpr ⟨fx_of (fun _ _ _ _ _ f h => (ft_118 h _ _ _ (fx_v01 f 3)).Y),
  List.forall_mem_cons.mpr ⟨fx_of (fun _ _ _ _ _ _ h => (ft_119 h _).Y),
  List.forall_mem_cons.mpr ⟨fx_of (fun _ _ _ _ _ _ h => (ft_120 h _).Y),
  List.forall_mem_cons.mpr ⟨fx_of (fun _ _ _ _ _ _ h => (ft_121 h _).Y),
  List.forall_mem_cons.mpr ⟨fx_of (fun _ _ _ _ _ _ h => (ft_122 h _).Y),
  List.forall_mem_cons.mpr ⟨fx_of (fun _ _ _ _ _ _ h => ft_123 h _),
  List.forall_mem_cons.mpr ⟨fx_of (fun _ _ _ _ _ _ h => (ft_124 h _).Y),
  List.forall_mem_cons.mpr ⟨fx_of (fun _ _ _ _ _ _ h => (ft_125 h).Y),
  List.forall_mem_cons.mpr ⟨fx_of (fun _ _ _ _ _ _ h => (ft_126 h _).Y),
  List.forall_mem_cons.mpr ⟨fx_of (fun _ _ _ _ _ _ h => (ft_127 h _ _).Y),
  List.forall_mem_cons.mpr ⟨fx_of (fun _ _ _ _ _ _ h => (ft_128 h _).Y),
  List.forall_mem_cons.mpr ⟨fx_of (fun _ _ _ _ _ _ h => (ft_129 h _).Y),
  List.forall_mem_cons.mpr ⟨fx_of (fun _ _ _ _ _ _ h => (ft_130 h _).Y),
  List.forall_mem_cons.mpr ⟨fx_of (fun _ _ _ _ _ _ h => (ft_131 h _).Y),
  List.forall_mem_cons.mpr ⟨fx_of (fun _ _ _ _ _ _ h => (ft_132 h _).Y),
  List.forall_mem_cons.mpr ⟨fx_of (fun _ _ _ _ _ _ h => (ft_133 h _).Y),
  List.forall_mem_cons.mpr ⟨fx_of (fun _ _ _ _ _ _ h => (ft_134 h _).Y),
  List.forall_mem_cons.mpr ⟨fx_of (fun _ _ _ _ _ _ h => (ft_135 h).Y),
  fun _ h => absurd h List.not_mem_nil⟩⟩⟩⟩⟩⟩⟩⟩⟩⟩⟩⟩⟩⟩⟩⟩⟩⟩⟩⟩⟩⟩⟩⟩⟩⟩⟩⟩⟩⟩⟩
theorem fx_szb : ∀ i, i < 10 → fr_sz i ≤ 48384 := by decide
theorem fx_lw : lw_Inv fx_Inv := by
  refine ⟨?_, ?_, ?_, ?_⟩
  · rintro t h h' ht ⟨al, kl, mk, M, MM, N, n, np, t', rfl, rfl, hJ, hI⟩
    obtain ⟨⟨j1, j2, j3⟩, -⟩ := hJ
    have hk : kl ≤ 48384 := by
      rcases j3 with e | ⟨i, i1, e⟩
      · omega
      · rw [e]; exact fx_szb i i1
    show al.1 + 42 ≤ 601024 ∧ al.2 + 106418 ≤ 7293034
    omega
  · rintro t h h' ⟨al, kl, mk, M, MM, N, n, np, t', rfl, rfl, hJ, hI⟩
    exact ⟨rfl, rfl⟩
  · rintro t h h' ⟨al, kl, mk, M, MM, N, n, np, t', rfl, rfl, hJ, hI⟩
    exact ⟨al, kl, mk, M, MM, N, n, np, t', rfl, rfl, hJ.more, hI⟩
  · intro t h h' k cse f ht hI hk
    exact fx_all cse (List.mem_of_getElem? hk) t h h' f ht hI
theorem fx_cnt {f : Nat → Int32} : ∀ k, (∀ j, j < k → f j = -1) → fn_cnt f k = 0
  | 0, _ => rfl
  | k + 1, h => by
    show fn_cnt f k + (if f k = -1 then 0 else 1) = 0
    rw [fx_cnt k (fun j hj => h j (by omega)), if_pos (h k (by omega))]
theorem fx_I0 {M MM : Nat → Nat → Int32} (mC : ∀ k j, k < 55 → j < lx_sz (((SC 0)[k]?).getD (0, 0)) → M k j = lx_mC k j) (mM : ∀ k j, k < 42 → j < lx_sz ((SM[k]?).getD (0, 0)) → MM k j = lx_mM k j) : fn_I 0 0 0 M MM := by
  have z8 : ∀ k, k < 9 → 4 < k → ∀ j, j < 8 → M k j = 0 := fun k h1 h2 j hj => by
    rcases (show k = 5 ∨ k = 6 ∨ k = 7 ∨ k = 8 by omega) with e | e | e | e <;> subst e <;> exact mC _ j (by omega) hj
  have y8 : ∀ k, 0 < k → k < 5 → ∀ j, j < 8 → MM k j = 0 := fun k h1 h2 j hj => by
    rcases (show k = 1 ∨ k = 2 ∨ k = 3 ∨ k = 4 by omega) with e | e | e | e <;> subst e <;> exact mM _ j (by omega) hj
  have z9 : ∀ k, 9 < k → k < 16 → ∀ j, j < 9 → M k j = 0 := fun k h1 h2 j hj => by
    rcases (show k = 10 ∨ k = 11 ∨ k = 12 ∨ k = 13 ∨ k = 14 ∨ k = 15 by omega) with e | e | e | e | e | e <;> subst e <;> exact mC _ j (by omega) hj
  have y9 : ∀ k, 4 < k → k < 11 → ∀ j, j < 9 → MM k j = 0 := fun k h1 h2 j hj => by
    rcases (show k = 5 ∨ k = 6 ∨ k = 7 ∨ k = 8 ∨ k = 9 ∨ k = 10 by omega) with e | e | e | e | e | e <;> subst e <;> exact mM _ j (by omega) hj
  have z90 : ∀ k, 15 < k → k < 19 → ∀ j, j < 90 → M k j = 0 := fun k h1 h2 j hj => by
    rcases (show k = 16 ∨ k = 17 ∨ k = 18 by omega) with e | e | e <;> subst e <;> exact mC _ j (by omega) hj
  have y90 : ∀ k, 10 < k → k < 14 → ∀ j, j < 90 → MM k j = 0 := fun k h1 h2 j hj => by
    rcases (show k = 11 ∨ k = 12 ∨ k = 13 by omega) with e | e | e <;> subst e <;> exact mM _ j (by omega) hj
  have z81 : ∀ j, j < 81 → M 19 j = 0 := fun j hj => mC 19 j (by omega) hj
  have y81 : ∀ j, j < 81 → MM 14 j = 0 := fun j hj => mM 14 j (by omega) hj
  have z21 : ∀ j, j < 200 → M 21 j = 0 := fun j hj => mC 21 j (by omega) hj
  have z22 : ∀ j, j < 200 → M 22 j = -1 := fun j hj => (mC 22 j (by omega) hj).trans (if_pos hj)
  have y15 : ∀ j, j < 200 → MM 15 j = 0 := fun j hj => mM 15 j (by omega) hj
  have y16 : ∀ j, j < 200 → MM 16 j = -1 := fun j hj => (mM 16 j (by omega) hj).trans (if_pos hj)
  have z1 : ∀ j, j < 8 → M 1 j = -1 := fun j hj => (mC 1 j (by omega) hj).trans (if_pos hj)
  have c : ∀ k j, k < 55 → j < lx_sz (((SC 0)[k]?).getD (0, 0)) → ∀ v, lx_mC k j = v → M k j = v := fun k j h1 h2 v e => (mC k j h1 h2).trans e
  have m0 : ∀ j, j < 64 → ∀ v, lx_mM 0 j = v → MM 0 j = v := fun j hj v e => (mM 0 j (by omega) hj).trans e
  refine ⟨⟨⟨by omega, c 4 0 (by omega) (by decide) _ rfl, m0 4 (by omega) _ rfl⟩, fun j hj => ?_, fun j hj => absurd hj (Nat.not_lt_zero _)⟩, ⟨⟨by omega, c 9 0 (by omega) (by decide) _ rfl, m0 5 (by omega) _ rfl⟩, fun j hj => ?_, fun j hj => ?_, fun j hj => ?_, fun j hj => ?_, fun j hj => ?_⟩, ⟨⟨0, by omega, c 20 2 (by omega) (by decide) _ rfl, m0 6 (by omega) _ rfl, fx_cnt 200 z22⟩, fun j hj => ?_⟩, ⟨by omega, c 0 12 (by omega) (by decide) _ rfl, m0 8 (by omega) _ rfl, ?_, ?_, Or.inl ⟨rfl, c 0 13 (by omega) (by decide) _ rfl⟩⟩, fun j hj => absurd hj (Nat.not_lt_zero _), ⟨fun i j hi hj => ?_, 0, by omega, m0 57 (by omega) _ rfl, fun j hj => absurd hj (Nat.not_lt_zero _), fun j _ hj => z1 j hj⟩, ⟨0, 0, by omega, by omega, c 45 12 (by omega) (by decide) _ rfl, c 45 13 (by omega) (by decide) _ rfl, m0 61 (by omega) _ rfl, m0 62 (by omega) _ rfl, fun j hj => absurd hj (Nat.not_lt_zero _)⟩, ⟨0, by omega, c 51 0 (by omega) (by decide) _ rfl, m0 7 (by omega) _ rfl, fun j hj => absurd hj (Nat.not_lt_zero _)⟩, ⟨0, by omega, c 28 0 (by omega) (by decide) _ rfl, m0 33 (by omega) _ rfl, fun j hj => absurd hj (Nat.not_lt_zero _)⟩, ⟨0, 0, fun _ => 0, by omega, by omega, c 51 0 (by omega) (by decide) _ rfl, c 51 1 (by omega) (by decide) _ rfl, m0 7 (by omega) _ rfl, fun j hj => absurd hj (Nat.not_lt_zero _), fun j hj => absurd hj (Nat.not_lt_zero _), fun i hi => absurd hi (Nat.not_lt_zero _), fun j hj => absurd hj (Nat.not_lt_zero _), fun i i' _ hi' => absurd hi' (Nat.not_lt_zero _)⟩, ⟨?_, 0, by omega, c 28 3 (by omega) (by decide) _ rfl⟩, ⟨c 27 6 (by omega) (by decide) _ rfl, 0, by omega, c 23 2 (by omega) (by decide) _ rfl, m0 41 (by omega) _ rfl, fun o ho => absurd ho (Nat.not_lt_zero _)⟩⟩
  · rw [z8 5 (by omega) (by omega) j hj, z8 6 (by omega) (by omega) j hj, z8 7 (by omega) (by omega) j hj, z8 8 (by omega) (by omega) j hj, y8 1 (by omega) (by omega) j hj, y8 2 (by omega) (by omega) j hj, y8 3 (by omega) (by omega) j hj, y8 4 (by omega) (by omega) j hj]
    decide
  · rw [z9 10 (by omega) (by omega) j hj, z9 11 (by omega) (by omega) j hj, z9 12 (by omega) (by omega) j hj, z9 13 (by omega) (by omega) j hj, z9 14 (by omega) (by omega) j hj, z9 15 (by omega) (by omega) j hj, y9 5 (by omega) (by omega) j hj, y9 6 (by omega) (by omega) j hj, y9 7 (by omega) (by omega) j hj, y9 8 (by omega) (by omega) j hj, y9 9 (by omega) (by omega) j hj, y9 10 (by omega) (by omega) j hj]
    decide
  · rw [z90 16 (by omega) (by omega) j hj, z90 17 (by omega) (by omega) j hj, z90 18 (by omega) (by omega) j hj, y90 11 (by omega) (by omega) j hj, y90 12 (by omega) (by omega) j hj, y90 13 (by omega) (by omega) j hj]
    decide
  · rw [z81 j hj, y81 j hj]
  · rw [z9 10 (by omega) (by omega) j hj, z9 11 (by omega) (by omega) j hj, z9 12 (by omega) (by omega) j hj]
    exact ⟨by decide, by decide, by decide, 0, by omega, z9 15 (by omega) (by omega) j hj, fun k hk => absurd hk (Nat.not_lt_zero _)⟩
  · rw [z81 j hj]
    decide
  · rw [z21 j hj, z22 j hj, y15 j hj, y16 j hj]
    exact ⟨rfl, rfl, by decide, Or.inl rfl⟩
  · rw [c 0 14 (by omega) (by decide) 0 rfl, m0 1 (by omega) 0 rfl, m0 2 (by omega) (-1) rfl]
    rfl
  · rw [c 0 13 (by omega) (by decide) (-1) rfl, m0 9 (by omega) (-1) rfl]
  · rw [z8 8 (by omega) (by omega) i hi, z8 8 (by omega) (by omega) j hj]
    have hb : ∀ j, j < 8 → fn_bt 0 j = false := by decide +kernel
    rw [hb i hi, hb j hj]
  · rw [c 32 2 (by omega) (by decide) 0 rfl, m0 3 (by omega) 0 rfl]
theorem fx_start {M MM : Nat → Nat → Int32} (mC : ∀ k j, k < 55 → j < lx_sz (((SC 0)[k]?).getD (0, 0)) → M k j = lx_mC k j) (mM : ∀ k j, k < 42 → j < lx_sz ((SM[k]?).getD (0, 0)) → MM k j = lx_mM k j) : fx_Inv 0 (hC (55, 6195) 0 M) (hM (42, 106418) MM (fun _ _ => 0)) :=
  ⟨(55, 6195), 0, 0, M, MM, _, 0, 0, 0, rfl, rfl, ⟨⟨Nat.le_refl _, Nat.le_refl _, Or.inl rfl⟩, Nat.le_refl _, mC 45 10 (by omega) (by decide), fun j hj => absurd hj (Nat.not_lt_zero _)⟩, fx_I0 mC mM⟩
theorem whole_start {p : Program} (l : Launch) {e : Env} {s : State} {m : MethodId} {below : List Frame} {meth : Method} {c : Code} {b L : Nat} {xs : Nat → Int32} (hL : L ≤ 3072) (C0 : lw_At p s m meth c b L xs) :
    W p l e room_1 s m #[Value.ref b] below meth c s.heap [] 0 0 (lw_Z below #[Value.ref b] s) (entryFrame m ([Value.ref b] : List Value).toArray 4) := by
  obtain ⟨M, rC, mC⟩ := lx_ctC
  obtain ⟨MM, rM, mM⟩ := lx_ctM
  exact lx_start l hL C0 fx_lw rC rM (fx_start mC mM) ⟨⟨Nat.le_of_ble_eq_true rfl, Nat.le_of_ble_eq_true rfl⟩, Nat.le_of_ble_eq_true rfl, Nat.le_of_ble_eq_true rfl⟩
