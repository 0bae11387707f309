def OcF (S T : St) : Prop := (∀ f i, sr T f i = sr S f i) ∧ (∀ f i, ¬ (f = 1 ∧ i = 22) → si T f i = si S f i) ∧ (∀ i, ¬ i = 23 → ai T i = ai S i) ∧ al T = al S ∧ ar T = ar S ∧ ln T = ln S
theorem OcF.rf (S : St) : OcF S S := ⟨fun _ _ => rfl, fun _ _ _ => rfl, fun _ _ => rfl, rfl, rfl, rfl⟩
theorem OcF.tr {S T U : St} (h : OcF S T) (g : OcF T U) : OcF S U := ⟨fun f i => (g.1 f i).trans (h.1 f i), fun f i a => (g.2.1 f i a).trans (h.2.1 f i a), fun i a => (g.2.2.1 i a).trans (h.2.2.1 i a), g.2.2.2.1.trans h.2.2.2.1, g.2.2.2.2.1.trans h.2.2.2.2.1, g.2.2.2.2.2.trans h.2.2.2.2.2⟩
theorem OcF.fx {S T : St} (h : OcF S T) (x : FxF S) : FxF T := x.agr (fun f i _ _ => h.1 f i) (fun i _ => by rw [h.2.2.2.2.2]) (by rw [h.2.2.2.2.1])
theorem OcF.same {S T : St} (h : OcF S T) {i : Nat} (h1 : ¬ i = 22) (h2 : ¬ i = 23) : SameO S T i := ⟨fun f => h.2.1 f i (fun z => h1 z.2), fun f => h.1 f i, h.2.2.1 i h2, by rw [h.2.2.2.1], by rw [h.2.2.2.2.1], by rw [h.2.2.2.2.2]⟩
section Ad
variable {F : Nat} {S : St}
end Ad
def rD (v : Nat) : Nat → List Nat
  | 0 => []
  | k + 1 => (48 + v / 10 ^ k % 10) :: rD v k
section Nu
variable {F : Nat} {S : St}
end Nu
