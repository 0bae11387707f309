/-! a day more -/
def dayN (N : Nat → Int32) : Nat → Int32 := upd N 2 (nI (kN N 2 + 1))
theorem dayN_n {N : Nat → Int32} {k : Nat} (h : ¬ k = 2) : dayN N k = N k := upd_n h
theorem dayN_k {N : Nat → Int32} {k : Nat} (h : ¬ k = 2) : kN (dayN N) k = kN N k := by unfold kN; rw [dayN_n h]
