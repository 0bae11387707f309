section Mr
variable {F : Nat} {S : St} {u : Nat} {B : Nat → Int32}
end Mr
theorem bits_on {a h : Nat} (ha : a < 64) (hh : h < 6) : nI a ||| ((1 : Int32) <<< (nI h &&& 31)) = nI (a ||| 2 ^ h) ∧ a ||| 2 ^ h < 64 ∧ ∀ x, x < 6 → ((a ||| 2 ^ h).testBit x = true ↔ (x = h ∨ a.testBit x = true)) := (show ∀ a, a < 64 → ∀ h, h < 6 → nI a ||| ((1 : Int32) <<< (nI h &&& 31)) = nI (a ||| 2 ^ h) ∧ a ||| 2 ^ h < 64 ∧ ∀ x, x < 6 → ((a ||| 2 ^ h).testBit x = true ↔ (x = h ∨ a.testBit x = true)) by decide +kernel) a ha h hh
section A
variable {F : Nat} {S : St} {n : Nat}
end A
