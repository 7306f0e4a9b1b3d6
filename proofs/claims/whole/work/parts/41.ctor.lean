/-! the constructors' runs -/
noncomputable def lx_run (n mi ci nf : Nat) : ai_Res := ai_ex n 200 mi 0 (ai_ent (ai_mx mi) [.ref 0]) [] (ai_ob ci nf lx_h0)
/-- what the rows hold at the start -/
def lx_mC (k j : Nat) : Int32 := match k with
  | 0 => if j = 13 then -1 else 0
  | 1 => if j < 8 then -1 else 0
  | 22 => if j < 200 then -1 else 0
  | 27 => if j = 6 then 1 else 0
  | 45 => if j = 13 then -1 else 0
  | _ => 0
def lx_mM (k j : Nat) : Int32 := match k with
  | 0 => if j = 2 then -1 else if j = 9 then -1 else 0
  | 16 => if j < 200 then -1 else 0
  | _ => 0
def lx_sz (q : Nat × Nat) : Nat := if q.1 = 0 then 64 else if q.2 < 4000 then q.2 else 0
def lx_chk (S : List (Nat × Nat)) (R : Nat → Nat → Option Nat) (n : Nat) (al : Nat × Nat) (r : ai_Res) : Bool := match r with
  | some (.inl none, h) => decide (h.1 = al) && (decide (h.2.1 = S) && ((List.range n).all fun k => (List.range 64).all fun j => decide (h.2.2.1 k j = R k j) && decide (h.2.2.2.2 k j = 0)))
  | _ => false
def lx_chm (S : List (Nat × Nat)) (m : Nat → Nat → Int32) (n : Nat) (r : ai_Res) : Bool := match r with
  | some (_, h) => (List.range n).all fun k => (List.range (lx_sz ((S[k]?).getD (0, 0)))).all fun j => decide (h.2.2.2.1 k j = m k j)
  | _ => false
theorem lx_t1 : lx_chk (SC 0) RC 55 (55, 6195) (lx_run 2000 104 9 15) = true := by decide +kernel
theorem lx_t2 : lx_chk SM RM 42 (42, 106418) (lx_run 2000 149 11 64) = true := by decide +kernel
theorem lx_t3 : lx_chm (SC 0) lx_mC 55 (lx_run 2000 104 9 15) = true := by decide +kernel
theorem lx_t4 : lx_chm SM lx_mM 42 (lx_run 2000 149 11 64) = true := by decide +kernel
