/-! a day begins: the class -/
/-- after the leaving: the round, if it is its day, and the day's note -/
noncomputable def rdN (L : (Nat → Int32) → Int32 → Int32 → Nat → Int32) (N : Nat → Int32) : (Nat → Int32) × Nat := if ¬ (N 2 - N 2 / N 1 * N 1) = 0 then (L N 10 (N 2), 0) else (L (L (rndN L (kN N 8) N).1 9 (nI (rndN L (kN N 8) N).2)) 10 (N 2), (rndN L (kN N 8) N).2)
section Bd
variable {F : Nat} {S : St} {n p d : Nat} {N B : Nat → Int32}
end Bd
