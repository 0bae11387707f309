/-! the users' words, checked in pieces -/
theorem us_0 : ∀ u, u < 3 → ∀ c, c < 4 → ∀ q, q < 15 → usB u c (10 + q) = true := by decide +kernel
theorem us_1 : ∀ u, u < 3 → ∀ c, c < 4 → ∀ q, q < 15 → usB u c (25 + q) = true := by decide +kernel
theorem us_2 : ∀ u, u < 3 → ∀ c, c < 4 → ∀ q, q < 15 → usB u c (40 + q) = true := by decide +kernel
theorem us_3 : ∀ u, u < 3 → ∀ c, c < 4 → ∀ q, q < 15 → usB u c (55 + q) = true := by decide +kernel
theorem us_4 : ∀ u, u < 3 → ∀ c, c < 4 → ∀ q, q < 15 → usB u c (70 + q) = true := by decide +kernel
theorem us_5 : ∀ u, u < 3 → ∀ c, c < 4 → ∀ q, q < 15 → usB u c (85 + q) = true := by decide +kernel
theorem us_all : ∀ u, u < 3 → ∀ c, c < 4 → ∀ q, q < 100 → (q < 10 ∨ usB u c q = true) := by
  intro u hu c hc q hq
  by_cases z : q < 10
  · exact Or.inl z
  refine Or.inr ?_
  by_cases z0 : q < 25
  · have := us_0 u hu c hc (q - 10) (by omega)
    rw [show 10 + (q - 10) = q by omega] at this
    exact this
  by_cases z1 : q < 40
  · have := us_1 u hu c hc (q - 25) (by omega)
    rw [show 25 + (q - 25) = q by omega] at this
    exact this
  by_cases z2 : q < 55
  · have := us_2 u hu c hc (q - 40) (by omega)
    rw [show 40 + (q - 40) = q by omega] at this
    exact this
  by_cases z3 : q < 70
  · have := us_3 u hu c hc (q - 55) (by omega)
    rw [show 55 + (q - 55) = q by omega] at this
    exact this
  by_cases z4 : q < 85
  · have := us_4 u hu c hc (q - 70) (by omega)
    rw [show 70 + (q - 70) = q by omega] at this
    exact this
  have := us_5 u hu c hc (q - 85) (by omega)
  rw [show 85 + (q - 85) = q by omega] at this
  exact this
