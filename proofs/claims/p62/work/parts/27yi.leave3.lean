section Ly
variable {F : Nat} {S : St} {n p d : Nat} {N0 B : Nat → Int32}
/-- nobody is due: nothing leaves -/
theorem lvN_none {L : (Nat → Int32) → Int32 → Int32 → Nat → Int32} {D : Nat} (h : ∀ m u, m < kN N0 7 → u < kN N0 4 → ¬ dueP N0 m u D) : ∀ x, x ≤ kN N0 7 → lvN L B N0 D x = N0 := by
  intro x
  induction x with
  | zero => intro _; rfl
  | succ x ih =>
    intro hx
    rw [lvN_s, ih (by omega)]
    have : ∀ y, y ≤ kN N0 4 → lvU L B N0 D x y N0 = N0 := by
      intro y
      induction y with
      | zero => intro _; rfl
      | succ y ih2 =>
        intro hy
        rw [lvU_s, ih2 (by omega), pif_f (h x y (by omega) (by omega))]
    exact this _ (Nat.le_refl _)
end Ly
