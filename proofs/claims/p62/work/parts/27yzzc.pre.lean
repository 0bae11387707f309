section Pd3
variable {F : Nat} {S : St} {n : Nat} {x y z : Int32}
abbrev dlP (N : Nat → Int32) (x y z : Int32) : Prop := (0 ≤ x ∧ x < N 4) ∧ inU N y ∧ (z = -1 ∨ (0 ≤ z ∧ z < N 3))
end Pd3
