/-! a day passes: the model -/
noncomputable def dyN (L : (Nat → Int32) → Int32 → Int32 → Nat → Int32) (B N : Nat → Int32) : (Nat → Int32) × Nat := rdN L (lvN L B (dayN N) (kN N 2 + 1) (kN N 7))
section Lvw
variable {F : Nat} {S : St} {n p : Nat} {N0 B : Nat → Int32} {D : Nat}
end Lvw
section Mps
variable {F : Nat} {S : St} {B : Nat → Int32} {L : (Nat → Int32) → Int32 → Int32 → Nat → Int32} {th : Int32}
end Mps
