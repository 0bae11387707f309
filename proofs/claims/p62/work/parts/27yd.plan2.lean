/-! the class plans -/
/-- the newer live references of a user in the same class -/
noncomputable def newN (N : Nat → Int32) (m u : Nat) : Nat := cntP (fun m' => m < m' ∧ stN N m' u = 0 ∧ clN N m' u = clN N m u) (kN N 7)
section Sf
variable {F : Nat} {S T : St} {n p : Nat} {N B : Nat → Int32}
/-- what planning may write -/
def PlF (S T : St) (p : Nat) : Prop := (∀ i, ¬ i = p → ¬ i = p + 17 → ¬ i = p + 18 → SameO S T i) ∧ (∀ f, ¬ f = 713 → si T f p = si S f p) ∧ (∀ f i, sr T f i = sr S f i) ∧ ln T = ln S ∧ (∀ i, ¬ i = p + 17 → ¬ i = p + 18 → ai T i = ai S i) ∧ al T = al S ∧ ar T = ar S
theorem PlF.rf (S : St) (p : Nat) : PlF S S p := ⟨fun i _ _ _ => SameO.rf S i, fun _ _ => rfl, fun _ _ => rfl, rfl, fun _ _ _ => rfl, rfl, rfl⟩
theorem PlF.tr {U : St} (h : PlF S T p) (g : PlF T U p) : PlF S U p := ⟨fun i a b c => (h.1 i a b c).tr (g.1 i a b c), fun f a => (g.2.1 f a).trans (h.2.1 f a), fun f i => (g.2.2.1 f i).trans (h.2.2.1 f i), g.2.2.2.1.trans h.2.2.2.1, fun i a b => (g.2.2.2.2.1 i a b).trans (h.2.2.2.2.1 i a b), g.2.2.2.2.2.1.trans h.2.2.2.2.2.1, g.2.2.2.2.2.2.trans h.2.2.2.2.2.2⟩
theorem PlF.uai {i k : Nat} (v : Int32) (h : i = p + 17 ∨ i = p + 18) : PlF S (uai S i k v) p := ⟨fun j a b c => SameO.uai v (by omega), fun _ _ => rfl, fun _ _ => rfl, rfl, fun j a b => by funext z; rw [ai_uai, if_neg (by omega)], rfl, rfl⟩
theorem PlF.ui (v : Int32) : PlF S (ui S 713 p v) p := ⟨fun j a b c => SameO.ui v a, fun f h => by rw [si_ui, if_neg (fun z => h z.1)], fun _ _ => rfl, rfl, fun _ _ _ => rfl, rfl, rfl⟩
end Sf
