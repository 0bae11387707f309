theorem law_pure {X : XS} (hL : X.2 ≤ 260) : ∃ (S9 : St) (n9 : Nat), f_L_law 100000 SE 0 X = some (1, S9, n9) := sorry
