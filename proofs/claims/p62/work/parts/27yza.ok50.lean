theorem ThS.mono {B N : Nat → Int32} {K K' : Nat} (t : ThS B N K) (h : K' ≤ K) : ThS B N K' := fun i hi => by
  obtain ⟨a, b, c, d, e⟩ := t i (by omega)
  exact ⟨a, b, fun y => c (by omega), d, e⟩
section R50
variable {F : Nat} {S : St} {n : Nat} {N B : Nat → Int32} {K : Nat}
end R50
section A
variable {F : Nat} {xs : Nat → Int32} {L : Nat} {S : St} {n : Nat} {i : Int32}
end A
