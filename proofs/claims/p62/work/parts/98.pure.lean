/-! the row that the machine layer asks for -/
theorem law_pure {X : XS} (hX : X.2 ≤ 260) : ∃ (S9 : St) (n9 : Nat), f_L_law 100000 SE 0 X = some (1, S9, n9) := law_pure' hX
