/-! the class drops a message's parts -/
theorem SpF.frm {S T : St} {p : Nat} (h : SpF S p) (e1 : ∀ f i, sr T f i = sr S f i) (e2 : ln T = ln S) : SpF T p := ⟨fun q hq => by rw [e1]; exact h.1 q hq, fun q hq => by rw [e2]; exact h.2 q hq⟩
section Dr
variable {F : Nat} {S : St} {n p m j : Nat} {N : Nat → Int32}
end Dr
