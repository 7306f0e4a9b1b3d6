/-! lasts, step -/
theorem fn_rw_rw {M : Nat → Nat → Int32} {k : Nat} {g g' : Nat → Int32} : fn_rw (fn_rw M k g) k g' = fn_rw M k g' := by
  funext a
  by_cases h : a = k
  · subst h; simp [fn_rw]
  · simp [fn_rw, h]
theorem fi_sub {a b : Nat} (h : b ≤ a) : nI a - nI b = nI (a - b) := by
  have : nI a = nI (a - b) + nI b := by rw [nI_add, Nat.sub_add_cancel h]
  rw [this, Int32.add_sub_cancel]
theorem fi_neg {a b : Nat} (h : a < b) (hb : b < 2 ^ 31) : ¬ 0 ≤ nI a - nI b := by
  rw [Int32.le_iff_toInt_le, Int32.toInt_sub, nI_toInt (by omega), nI_toInt hb, Int.bmod_eq_of_le (by omega) (by omega)]
  show ¬ (0 : Int) ≤ _
  omega
theorem fn_I.st {n np t : Nat} {M MM : Nat → Nat → Int32} (h : fn_I n np t M MM) {p : Nat} (hp : p < 9) : ∃ a b, a ≤ 1000000 ∧ b ≤ 1000000 ∧ M 10 p = nI a ∧ MM 5 p = nI a ∧ M 11 p = nI b ∧ MM 6 p = nI b := by
  obtain ⟨-, l2, -, -, l5, -⟩ := h.land
  obtain ⟨a1, a2, -⟩ := l2 p hp
  obtain ⟨⟨b1, b2⟩, ⟨b3, b4⟩, -⟩ := l5 p hp
  obtain ⟨a, p1, p2⟩ := fi_le (n := 1000000) (by omega) b1 b2
  obtain ⟨b, q1, q2⟩ := fi_le (n := 1000000) (by omega) b3 b4
  exact ⟨a, b, p1, q1, p2, a1 ▸ p2, q2, a2 ▸ q2⟩
theorem fw_212 {d : Nat} {hp : ai_Hp} {a b : Nat} (ha : a < 2 ^ 31) (hb : b < 2 ^ 31) : ai_run d 212 0 [.int (nI a), .int (nI b)] [] hp = some (.inl (some (.int (nI (min a b)))), hp) := by
  rw [bq_212_0]
  by_cases g : b < a
  · rw [if_pos (nI_lt g ha), bq_212_1, bq_212_2, Nat.min_eq_right (by omega)]
  · rw [if_neg (nI_nlt (by omega) hb), bq_212_2, Nat.min_eq_left (by omega)]
/-- what can be had of a place -/
def fn_sp (MM : Nat → Nat → Int32) (p : Nat) : Nat := min (MM 5 p).toNatClampNeg (MM 6 p).toNatClampNeg
theorem fn_sp_le {n np t : Nat} {M MM : Nat → Nat → Int32} (h : fn_I n np t M MM) {p : Nat} (hp : p < 9) : fn_sp MM p ≤ 1000000 := by
  obtain ⟨a, b, a1, b1, -, a2, -, b2⟩ := h.st hp
  unfold fn_sp
  rw [a2, b2, nI_clamp (by omega), nI_clamp (by omega)]
  omega
theorem fw_38 {d : Nat} {al : Nat × Nat} {kl n np t p : Nat} {M MM : Nat → Nat → Int32} (h : fn_I n np t M MM) (hp : p < np) : ai_run (d + 1) 38 0 [.ref 9, .int (nI p)] [] (hC al kl M) = some (.inl (some (.int (nI (fn_sp MM p)))), hC al kl M) := by
  obtain ⟨e1, e2, e3⟩ := h.land.1
  obtain ⟨a, b, a1, b1, a2, a3, b2, b3⟩ := h.st (p := p) (by omega)
  have g : 0 ≤ nI p ∧ nI p < M 9 0 := by rw [e2]; exact ⟨nI_pos' (by omega), nI_lt hp (by omega)⟩
  rw [bq_38_0, fw_33, fb_s, bq_38_1, if_neg (fun q => fn_b0.mp q g), fi_in (by omega), decide_eq_true (by omega), cond_true, cond_true, nI_clamp (by omega), a2, b2, fw_212 (by omega) (by omega), fb_s, bq_38_2, bq_38_4]
  unfold fn_sp
  rw [a3, b3, nI_clamp (by omega), nI_clamp (by omega)]
/-- for how many days it lasts -/
def fn_la (f : Nat → Nat) : Nat → Nat → Nat → Nat
  | _, _, 0 => 0
  | L, day, m + 1 => if f day ≤ L then 1 + fn_la f (L - f day) (day + 1) m else 0
theorem fl_125 {d : Nat} {al : Nat × Nat} {kl n np t : Nat} {M MM : Nat → Nat → Int32} (h : fn_I n np t M MM) : ∀ (m day L c : Nat) (g : Nat → Int32), day + m = 200 → L ≤ 1000000 → g 6 = 1 → ∃ g' : Nat → Int32, g' 6 = 1 ∧ ai_run (d + 4) 125 5 [.ref 0, .int (nI L), .int (nI c), .int (nI day)] [] (hC al kl (fn_rw M 27 g)) = some (.inl (some (.int (nI (c + fn_la (fn_need MM) L day m)))), hC al kl (fn_noC (fn_rw M 27 g') 0))
  | 0, day, L, c, g, hd, hL, hg => by
    have : day = 200 := by omega
    subst this
    refine ⟨g, hg, ?_⟩
    rw [bq_125_5, if_pos (show (200 : Int32) ≤ nI 200 by decide), bq_125_8, bq_137_0, fb_s, bq_125_9]
    rfl
  | m + 1, day, L, c, g, hd, hL, hg => by
    have hn := fn_need_le MM day
    obtain ⟨g1, p1, p2⟩ := fw_81 (d := d) (al := al) (kl := kl) (v2 := ai_un) (v3 := ai_un) (v4 := ai_un) (v5 := ai_un) (h.val hg) (day := day) (by omega)
    rw [fn_rw_rw] at p2
    rw [bq_125_5, if_neg (fj_nle (c := 200) (n := 200) rfl (by omega) (by omega)), p2, fb_s, bq_125_6]
    show ∃ g' : Nat → Int32, g' 6 = 1 ∧ _ = some (Sum.inl (some (Value.int (nI (c + (if fn_need MM day ≤ L then 1 + fn_la (fn_need MM) (L - fn_need MM day) (day + 1) m else 0))))), hC al kl (fn_noC (fn_rw M 27 g') 0))
    by_cases c1 : fn_need MM day ≤ L
    · obtain ⟨g', q1, q2⟩ := fl_125 (d := d) (al := al) (kl := kl) h m (day + 1) (L - fn_need MM day) (c + 1) g1 (by omega) (by omega) p1
      refine ⟨g', q1, ?_⟩
      rw [fi_sub c1, if_pos (nI_pos' (by omega)), bq_125_7, nI_1, nI_1, q2, if_pos c1, Nat.add_assoc]
    · refine ⟨g1, p1, ?_⟩
      rw [if_neg (fi_neg (by omega) (by omega)), bq_125_8, bq_137_0, fb_s, bq_125_9, if_neg c1]
      rfl
theorem fl_198 {d : Nat} {al : Nat × Nat} {N : Nat → Nat → Int64} {n np t p : Nat} {M MM : Nat → Nat → Int32} (h : fn_I n np t M MM) (hp : p < 9) (h9 : MM 0 9 = nI p) : ∀ (m day s c : Nat) (v3 : Value), day + m = 200 → s ≤ fn_sp MM p → ai_run (d + 3) 198 3 [.ref 0, .int (nI c), .long (lN s), v3, .int (nI day)] [] (hM al MM N) = some (.inl (some (.int (nI (c + fn_la (fn_need MM) (fn_sp MM p - s) day m)))), hM al (fn_noM MM 0) N)
  | 0, day, s, c, v3, hd, hs => by
    have : day = 200 := by omega
    subst this
    rw [bq_198_3, if_pos (show (200 : Int32) ≤ nI 200 by decide), bq_198_8, bq_146_0, fb_s, bq_198_9]
    rfl
  | m + 1, day, s, c, v3, hd, hs => by
    have hn := fn_need_le MM day
    have hsp := fn_sp_le h hp
    obtain ⟨a, b, a1, b1, -, a2, -, b2⟩ := h.st hp
    have esp : fn_sp MM p = min a b := by
      unfold fn_sp
      rw [a2, b2, nI_clamp (by omega), nI_clamp (by omega)]
    have i9 : ai_in (nI p) 9 = true := by rw [fi_in (by omega)]; exact decide_eq_true hp
    rw [bq_198_3, if_neg (fj_nle (c := 200) (n := 200) rfl (by omega) (by omega)), fw_182 h (day := day) (by omega), fb_s, bq_198_4, h9, i9, cond_true, cond_true, nI_clamp (by omega), a2, b2, nI_l (by omega), nI_l (by omega), nI_l (by omega), lN_add]
    show _ = some (Sum.inl (some (Value.int (nI (c + (if fn_need MM day ≤ fn_sp MM p - s then 1 + fn_la (fn_need MM) (fn_sp MM p - s - fn_need MM day) (day + 1) m else 0))))), hM al (fn_noM MM 0) N)
    by_cases c1 : a < s + fn_need MM day
    · rw [if_pos ((lg_cmp_gt _ _).mpr ((lN_lt (by omega) (by omega)).mpr c1)), bq_198_5, bq_146_0, fb_s, bq_198_6, if_neg (by omega)]
      rfl
    · rw [if_neg (fun q => c1 ((lN_lt (by omega) (by omega)).mp ((lg_cmp_gt _ _).mp q)))]
      by_cases c2 : s + fn_need MM day ≤ b
      · rw [if_pos ((lg_cmp_le _ _).mpr ((lN_le (by omega) (by omega)).mpr c2)), bq_198_7, nI_1, nI_1, fl_198 h hp h9 m (day + 1) (s + fn_need MM day) (c + 1) _ (by omega) (by omega), if_pos (by omega), Nat.add_assoc, Nat.sub_sub]
      · rw [if_neg (fun q => c2 ((lN_le (by omega) (by omega)).mp ((lg_cmp_le _ _).mp q))), bq_198_5, bq_146_0, fb_s, bq_198_6, if_neg (by omega)]
        rfl
theorem fn_la_cg {f f' : Nat → Nat} (h : ∀ x, f x = f' x) : ∀ (m L day : Nat), fn_la f L day m = fn_la f' L day m
  | 0, _, _ => rfl
  | m + 1, L, day => by
    show (if f day ≤ L then 1 + fn_la f (L - f day) (day + 1) m else 0) = (if f' day ≤ L then 1 + fn_la f' (L - f' day) (day + 1) m else 0)
    rw [h day, fn_la_cg h m]
theorem ft_125 {n np t : Nat} {M MM : Nat → Nat → Int32} (h : fn_I n np t M MM) : fn_S 125 198 [] M MM := by
  intro al am kl N
  obtain ⟨e1, e2, e3⟩ := h.land.1
  obtain ⟨n1, n2, n3, n4, n5, n6⟩ := h.now
  rw [show ai_ent (ai_mx 125) [.ref 0] = [.ref 0, ai_un, ai_un, ai_un] from rfl, show ai_ent (ai_mx 198) [.ref 0] = [.ref 0, ai_un, ai_un, ai_un, ai_un] from rfl]
  rw [bq_125_0, fw_33, fb_s, bq_125_1, bq_198_0, ← n5, e2]
  rcases n6 with ⟨g1, g2⟩ | ⟨q, g1, g2⟩
  · rw [g2, if_pos (fn_b0.mpr (fun q => absurd q.1 (by decide))), if_pos rfl, bq_136_0, fb_s, bq_125_2, bq_144_0, fb_s, bq_198_1]
    exact ⟨_, n, np, t, _, _, rfl, rfl, ⟨rfl, rfl⟩, h.no 6⟩
  · have g : 0 ≤ nI q ∧ nI q < nI np := ⟨nI_pos' (by omega), nI_lt g1 (by omega)⟩
    have hz := h.z
    obtain ⟨g', p1, p2⟩ := fl_125 (d := 196) (al := al) (kl := kl) h (200 - t) t (fn_sp MM q) 0 (M 27) (by omega) (fn_sp_le h (by omega)) h.rul.1
    rw [fn_rw_id] at p2
    have l := fl_198 (d := 197) (al := am) (N := N) hz (p := q) (by omega) (show (ai_up MM 0 0 0) 0 9 = nI q from n5.symm.trans g2) (200 - t) t 0 0 ai_un (by omega) (Nat.zero_le _)
    rw [g2, if_neg (fun x => fn_b0.mp x g), if_neg (fi_m1 (by omega)), bq_125_3, g2, fw_38 h g1, fb_s, bq_125_4, n2, show (0 : Int32) = nI 0 from rfl, p2, bq_198_2, show (ai_up MM 0 0 (nI 0)) 0 8 = nI t from n3]
    refine ⟨_, n, np, t, _, _, rfl, l.trans ?_, ⟨rfl, rfl⟩, (h.val p1).no 0⟩
    rw [show fn_sp (ai_up MM 0 0 0) q = fn_sp MM q from rfl, Nat.sub_zero, fn_la_cg (fn_need_z MM)]
    rfl
/-! step -/
theorem fi_hw : ∀ w, w < 49 → ∀ y, y < 5 → (nI w * ((4 : Int32) + nI y)) / (4 : Int32) = nI (w * (4 + y) / 4) := by decide +kernel
/-- the hours of a way on a day, 0 if none -/
def fn_hw (MM : Nat → Nat → Int32) (p q day : Nat) : Nat := if (MM 14 (9 * p + q)).toNatClampNeg * (4 + (MM 15 day).toNatClampNeg) / 4 ≤ 16 then (MM 14 (9 * p + q)).toNatClampNeg * (4 + (MM 15 day).toNatClampNeg) / 4 else 0
theorem fn_hw_le (MM : Nat → Nat → Int32) (p q day : Nat) : fn_hw MM p q day ≤ 16 := by
  unfold fn_hw
  by_cases c : (MM 14 (9 * p + q)).toNatClampNeg * (4 + (MM 15 day).toNatClampNeg) / 4 ≤ 16
  · rw [if_pos c]; exact c
  · rw [if_neg c]; omega
theorem fw_w {n np t : Nat} {M MM : Nat → Nat → Int32} (h : fn_I n np t M MM) {p q day : Nat} (hp : p < 9) (hq : q < 9) (hd : day < 200) : ∃ w y, w < 49 ∧ y < 5 ∧ M 19 (9 * p + q) = nI w ∧ MM 14 (9 * p + q) = nI w ∧ MM 15 day = nI y := by
  obtain ⟨-, -, -, l4, -, l6⟩ := h.land
  obtain ⟨c1, c2, ⟨c3, c4⟩, -⟩ := h.cal.2 day hd
  have k1 := l4 (9 * p + q) (by omega)
  obtain ⟨k2, k3⟩ := l6 (9 * p + q) (by omega)
  obtain ⟨w, p1, p2⟩ := fi_le (n := 48) (by omega) k2 k3
  obtain ⟨y, q1, q2⟩ := fi_le (n := 4) (by omega) c3 c4
  exact ⟨w, y, by omega, by omega, p2, k1 ▸ p2, c1 ▸ q2⟩
theorem fw_37 {d : Nat} {al : Nat × Nat} {kl n np t p q day : Nat} {M MM : Nat → Nat → Int32} (h : fn_I n np t M MM) (hp : p < np) (hq : q < np) (hd : day < 200) {v4 : Value} : ai_run (d + 1) 37 0 [.ref 9, .int (nI p), .int (nI q), .int (MM 15 day), v4] [] (hC al kl M) = some (.inl (some (.int (nI (fn_hw MM p q day)))), hC al kl M) := by
  obtain ⟨e1, e2, e3⟩ := h.land.1
  obtain ⟨w, y, w1, y1, w2, w3, y2⟩ := fw_w h (p := p) (q := q) (by omega) (by omega) hd
  have gp : 0 ≤ nI p ∧ nI p < M 9 0 := by rw [e2]; exact ⟨nI_pos' (by omega), nI_lt hp (by omega)⟩
  have gq : 0 ≤ nI q ∧ nI q < M 9 0 := by rw [e2]; exact ⟨nI_pos' (by omega), nI_lt hq (by omega)⟩
  have hb : w * (4 + y) ≤ 48 * 8 := Nat.mul_le_mul (by omega) (by omega)
  rw [bq_37_0, fw_33, fb_s, bq_37_1, if_neg (fun x => fn_b0.mp x gp), fw_33, fb_s, bq_37_2, if_neg (fun x => fn_b0.mp x gq), bq_37_4, fi_w.1, fi_in (by omega), decide_eq_true (by omega), cond_true, nI_clamp (by omega), w2, y2, fi_hw w w1 y y1]
  unfold fn_hw
  rw [w3, y2, nI_clamp (by omega), nI_clamp (by omega)]
  by_cases c : w * (4 + y) / 4 ≤ 16
  · rw [if_pos c, if_pos (fj_ge (c := 16) (n := 16) rfl c (by omega)), bq_37_5, bq_37_6]
  · rw [if_neg c, if_neg (fj_nge (c := 16) (n := 16) rfl (by omega) (by omega)), bq_37_6]
    rfl
theorem fw_191 {d : Nat} {al : Nat × Nat} {N : Nat → Nat → Int64} {n np t p q day : Nat} {M MM : Nat → Nat → Int32} (h : fn_I n np t M MM) (hp : p < 9) (hq : q < 9) (hd : day < 200) {v4 : Value} : ai_run d 191 0 [.ref 0, .int (nI p), .int (nI q), .int (nI day), v4] [] (hM al MM N) = some (.inl (some (.int (if fn_hw MM p q day = 0 then -1 else nI (fn_hw MM p q day)))), hM al MM N) := by
  obtain ⟨w, y, w1, y1, w2, w3, y2⟩ := fw_w h (p := p) (q := q) hp hq hd
  have hb : w * (4 + y) ≤ 48 * 8 := Nat.mul_le_mul (by omega) (by omega)
  rw [bq_191_0, fi_w.2, fi_in (by omega), decide_eq_true (by omega), cond_true, fi_in (by omega), decide_eq_true hd, cond_true, nI_clamp (by omega), nI_clamp (by omega), w3, y2, fi_hw w w1 y y1]
  unfold fn_hw
  rw [w3, y2, nI_clamp (by omega), nI_clamp (by omega)]
  by_cases c0 : w * (4 + y) / 4 = 0
  · rw [c0, if_pos (show nI 0 = 0 from rfl), if_pos (show 0 ≤ 16 by omega), if_pos rfl, bq_191_1, bq_191_3]
  · rw [if_neg (nI_ne0 (by omega) (by omega))]
    by_cases c : w * (4 + y) / 4 ≤ 16
    · rw [if_pos c, if_pos (fj_ge (c := 16) (n := 16) rfl c (by omega)), if_neg c0, bq_191_2, bq_191_3]
    · rw [if_neg c, if_neg (fj_nge (c := 16) (n := 16) rfl (by omega) (by omega)), if_pos rfl, bq_191_1, bq_191_3]
theorem fn_ls {np p a b : Nat} {c0 : Int32} {r10 r11 r12 r13 r14 r15 r16 r17 r18 r19 : Nat → Int32} {m5 : Int32} {s5 s6 s7 s8 s9 s10 s11 s12 s13 s14 : Nat → Int32} {u v : Int32} (h : fn_land np c0 r10 r11 r12 r13 r14 r15 r16 r17 r18 r19 m5 s5 s6 s7 s8 s9 s10 s11 s12 s13 s14) (ha : a ≤ 1000000) (hb : b ≤ 1000000) : fn_land np c0 (upd r10 p (nI a)) (upd r11 p (nI b)) r12 (upd r13 p u) (upd r14 p v) r15 r16 r17 r18 r19 m5 (upd s5 p (nI a)) (upd s6 p (nI b)) s7 (upd s8 p u) (upd s9 p v) s10 s11 s12 s13 s14 := by
  obtain ⟨h1, h2, h3, h4, h5, h6⟩ := h
  refine ⟨h1, fun j hj => ?_, h3, h4, fun j hj => ?_, h6⟩
  · obtain ⟨a1, a2, a3, a4, a5, a6⟩ := h2 j hj
    by_cases hjp : j = p
    · subst hjp; rw [pk_us, pk_us, pk_us, pk_us, pk_us, pk_us, pk_us, pk_us]; exact ⟨rfl, rfl, a3, rfl, rfl, a6⟩
    · rw [pk_un hjp, pk_un hjp, pk_un hjp, pk_un hjp, pk_un hjp, pk_un hjp, pk_un hjp, pk_un hjp]; exact ⟨a1, a2, a3, a4, a5, a6⟩
  · obtain ⟨a1, a2, a3⟩ := h5 j hj
    by_cases hjp : j = p
    · subst hjp; rw [pk_us, pk_us]
      exact ⟨⟨nI_pos' (by omega), fj_ge (c := 1000000) (n := 1000000) rfl ha (by omega)⟩, ⟨nI_pos' (by omega), fj_ge (c := 1000000) (n := 1000000) rfl hb (by omega)⟩, a3⟩
    · rw [pk_un hjp, pk_un hjp]; exact ⟨a1, a2, a3⟩
theorem fn_pu {t : Nat} {r2 r3 s17 s18 : Nat → Int32} {u v : Int32} (h : fn_past t r2 r3 s17 s18) : fn_past (t + 1) (upd r2 t u) (upd r3 t v) (upd s17 t u) (upd s18 t v) := by
  intro j hj
  by_cases hjt : j = t
  · subst hjt; rw [pk_us, pk_us, pk_us, pk_us]; exact ⟨rfl, rfl⟩
  · rw [pk_un hjt, pk_un hjt, pk_un hjt, pk_un hjt]; exact h j (by omega)
set_option maxHeartbeats 2000000 in
theorem ft_126 {n np t : Nat} {M MM : Nat → Nat → Int32} (h : fn_I n np t M MM) (x : Int32) : fn_S 126 199 [.int x] M MM := by
  intro al am kl N
  obtain ⟨e1, e2, e3⟩ := h.land.1
  obtain ⟨n1, n2, n3, n4, n5, n6⟩ := h.now
  rw [show ai_ent (ai_mx 126) [.ref 0, .int x] = [.ref 0, .int x, ai_un] from rfl, show ai_ent (ai_mx 199) [.ref 0, .int x] = [.ref 0, .int x, ai_un, ai_un] from rfl]
  rw [bq_126_0, fw_33, fb_s, bq_126_1, bq_199_0, fw_151, fb_s, bq_199_1, e2, show (ai_up MM 0 0 0) 0 5 = nI np from e3]
  by_cases hx : 0 ≤ x ∧ x < nI np
  · obtain ⟨p, p1, p2⟩ := fi_of (by omega) hx
    obtain ⟨q, g1, g2⟩ := n6.resolve_left (fun z => by omega)
    have gq : 0 ≤ nI q ∧ nI q < M 9 0 := by rw [e2]; exact ⟨nI_pos' (by omega), nI_lt g1 (by omega)⟩
    have z8 : (ai_up MM 0 0 0) 0 8 = nI t := n3
    have z9 : (ai_up MM 0 0 0) 0 9 = nI q := n5.symm.trans g2
    rw [if_neg (fun z => fn_b0.mp z hx), if_neg (fun z => fn_b0.mp z hx), g2, fw_33, fb_s, bq_126_2, if_neg (fun z => fn_b0.mp z gq), bq_126_5, bq_199_3, z9, z8, g2, n2]
    have go : ∃ (v : Int32) (n np t : Nat) (M1 MM1 : Nat → Nat → Int32), ai_run 200 126 9 [.ref 0, .int x, ai_un] [] (hC al kl M) = some (.inl (some (.int v)), hC al kl M1) ∧ ai_run 200 199 6 [.ref 0, .int x, ai_un, ai_un] [] (hM am (ai_up MM 0 0 0) N) = some (.inl (some (.int v)), hM am MM1 N) ∧ (M1 49 = M 49 ∧ M1 45 10 = M 45 10) ∧ fn_I n np t M1 MM1 := by
      rw [bq_126_9, bq_199_6, n2, z8]
      by_cases ht : t < 199
      · have hz := h.z
        have hne : ¬ nI t = 199 := fj_ne (c := 199) (n := 199) rfl (by omega) (by omega) (by omega)
        obtain ⟨g', r1, r2⟩ := fw_81 (d := 196) (al := al) (kl := kl) (v2 := ai_un) (v3 := ai_un) (v4 := ai_un) (v5 := ai_un) h n1
        obtain ⟨a, b, a1, b1, a2, a3, b2, b3⟩ := h.st (p := q) (by omega)
        have hv := h.val r1
        have gq' : 0 ≤ nI q ∧ nI q < (fn_rw M 27 g') 9 0 := gq
        have i9 : ai_in (nI q) 9 = true := by rw [fi_in (by omega)]; exact decide_eq_true (by omega)
        have i2 : ai_in (nI t) 200 = true := by rw [fi_in (by omega)]; exact decide_eq_true (by omega)
        have hn := fn_need_le MM t
        have esp : fn_sp MM q = min a b := by
          unfold fn_sp
          rw [a3, b3, nI_clamp (by omega), nI_clamp (by omega)]
        rw [if_pos (fj_gt (c := 199) (n := 199) rfl ht (by omega)), if_neg hne, bq_126_11, g2, n2, r2, fb_s, bq_126_12, bq_39_0, fw_33, fb_s, bq_39_1, if_neg (fun z => fn_b0.mp z gq'), bq_39_2, fw_38 hv g1, fb_s, bq_39_3, fw_212 (by omega) (by omega), fb_s, bq_39_4, i9]
        simp only [cond_true]
        rw [nI_clamp (by omega), show (fn_rw M 27 g') 10 q = nI a from a2, show (fn_rw M 27 g') 11 q = nI b from b2, fi_sub (by omega), fi_sub (by omega), fi_sub (by omega), fb_s, bq_126_13]
        rw [bq_199_8, z8, fw_182 hz n1, fn_need_z, fb_s, bq_199_9, z9, i9, cond_true, cond_true, nI_clamp (by omega), show (ai_up MM 0 0 0) 5 q = nI a from a3, show (ai_up MM 0 0 0) 6 q = nI b from b3, fw_212 (by omega) (by omega), fb_s, bq_199_10, fw_212 (by omega) (by omega), fb_s, bq_199_11, z9, z8, i9, i2]
        simp only [cond_true]
        rw [nI_clamp (by omega), nI_clamp (by omega), show (ai_up MM 0 0 0) 5 q = nI a from a3, show (ai_up MM 0 0 0) 6 q = nI b from b3, ← esp, fi_sub (by omega), fi_sub (by omega), fi_sub (by omega), bq_146_0, fb_s, bq_199_12, nI_1]
        rw [fu_row (by decide), fu_row (by decide), fu_row (by decide), fu_row (by decide), show (fn_rw M 27 g') 0 12 = nI t from n2, show (fn_rw M 27 g') 0 13 = nI q from g2, i2]
        simp only [cond_true]
        have e13 : (fn_rw M 27 g') 13 q = MM 8 q := (h.land.2.1 q (by omega)).2.2.2.1
        have e14 : (fn_rw M 27 g') 14 q = MM 9 q := (h.land.2.1 q (by omega)).2.2.2.2.1
        rw [nI_clamp (by omega), nI_1, bq_137_0, fb_s, bq_126_14, e13, e14]
        exact ⟨_, n, np, t + 1, _, _, rfl, rfl, ⟨rfl, rfl⟩, ⟨h.court, fn_ls h.land (by omega) (by omega), h.cal, ⟨by omega, rfl, rfl, rfl, rfl, Or.inr ⟨p, p1, p2⟩⟩, fn_pu h.past, h.ldg, h.told, h.plz, h.tap, h.que, h.flt, r1, h.rul.2⟩⟩
      · have ht9 : t = 199 := by omega
        subst ht9
        rw [if_neg (by decide), if_pos (show nI 199 = 199 from rfl), bq_136_0, fb_s, bq_126_10, bq_144_0, fb_s, bq_199_7]
        exact ⟨_, n, np, 199, _, _, rfl, rfl, ⟨rfl, rfl⟩, h.no 2⟩
    by_cases hpq : p = q
    · rw [p2, hpq, if_pos rfl, if_pos rfl]
      rw [p2, hpq] at go
      exact go
    · have hne : ¬ nI p = nI q := fun z => hpq ((nI_eq (by omega) (by omega)).mp z)
      rw [p2] at go ⊢
      rw [if_neg hne, if_neg hne, fw_2 n1, fb_s, bq_126_6, (h.cal.2 t n1).1, fw_37 h g1 p1 n1, fb_s, bq_126_7, fw_191 h.z (p := q) (q := p) (by omega) (by omega) n1, fb_s, bq_199_4, show fn_hw (ai_up MM 0 0 0) q p t = fn_hw MM q p t from rfl]
      by_cases hw : fn_hw MM q p t = 0
      · rw [hw, if_pos (show nI 0 = 0 from rfl), if_pos rfl, if_pos rfl, bq_136_0, fb_s, bq_126_8, bq_144_0, fb_s, bq_199_5]
        exact ⟨_, n, np, t, _, _, rfl, rfl, ⟨rfl, rfl⟩, h.no 5⟩
      · have := fn_hw_le MM q p t
        rw [if_neg (nI_ne0 (by omega) (by omega)), if_neg hw, if_neg (fi_m1 (by omega))]
        exact go
  · rw [if_pos (fn_b0.mpr hx), if_pos (fn_b0.mpr hx), bq_126_3, bq_136_0, fb_s, bq_126_4, bq_144_0, fb_s, bq_199_2]
    exact ⟨_, n, np, t, _, _, rfl, rfl, ⟨rfl, rfl⟩, h.no 1⟩
