section Q
variable {F : Nat} {xs : Nat → Int32} {L : Nat} {S : St} {n : Nat} {i : Int32}
theorem e_needKind (F : Nat) (S : St) (x : Int32) : f_X10_needKind F S x = some (if 0 ≤ x ∧ x < nI 4 then .inr () else .inl 2, S) := by
  have e := e_needWhat (F := F) (S := S) x 3 (by omega)
  unfold f_X10_needWhat f_X10_needWhat_L9 at e
  unfold f_X10_needKind f_X10_needKind_L9
  exact e
end Q
