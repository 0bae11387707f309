/-! a loop with an invariant -/
theorem loopE {α β : Type} (L : Nat → Nat → α → Option β) (n : Nat) (I : Nat → α → Prop) (Q : β → Prop) (hstop : ∀ fu a, I n a → ∃ b, L (fu + 1) n a = some b ∧ Q b)
    (hstep : ∀ fu k a, k < n → I k a → (∃ b, L (fu + 1) k a = some b ∧ Q b) ∨ ∃ a', I (k + 1) a' ∧ L (fu + 1) k a = L fu (k + 1) a') : ∀ fu k a, k ≤ n → n - k < fu → I k a → ∃ b, L fu k a = some b ∧ Q b := by
  intro fu
  induction fu with
  | zero => intro k a _ h; exact absurd h (Nat.not_lt_zero _)
  | succ fu ih =>
    intro k a hk hf hI
    rcases Nat.lt_or_ge k n with h | h
    · rcases hstep fu k a h hI with q | ⟨a', h1, h2⟩
      · exact q
      · rw [h2]; exact ih (k + 1) a' (by omega) (by omega) h1
    · have e : k = n := by omega
      subst e
      exact hstop fu a hI
theorem bits_s (P : Nat → Prop) (k : Nat) : bitsN P (k + 1) = pif (P k) (bitsN P k ||| 2 ^ k) (bitsN P k) := rfl
section MW
variable {F : Nat} {S : St}
end MW
