theorem ruR_le : ∀ q ∈ ruR, q.2.1 ≤ 18 := by decide
theorem spR_le : ∀ q ∈ spR, q.2.1 ≤ 20 := by decide
