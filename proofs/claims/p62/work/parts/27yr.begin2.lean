section Bg
variable {F : Nat} {S : St} {n p : Nat} {N B : Nat → Int32}
/-- what a day writes -/
def BdF (S T : St) (p : Nat) : Prop := (∀ i, ¬ (p ≤ i ∧ i ≤ p + 20) → SameO S T i) ∧ (∀ f i, sr T f i = sr S f i) ∧ ln T = ln S
theorem BdF.rf (S : St) (p : Nat) : BdF S S p := ⟨fun i _ => SameO.rf S i, fun _ _ => rfl, rfl⟩
theorem BdF.tr {T U : St} (h : BdF S T p) (g : BdF T U p) : BdF S U p := ⟨fun i a => (h.1 i a).tr (g.1 i a), fun f i => (g.2.1 f i).trans (h.2.1 f i), g.2.2.trans h.2.2⟩
end Bg
