/-! the whole plan -/
/-- a live reference is due on day D -/
def dueP (N : Nat → Int32) (m u D : Nat) : Prop := stN N m u = 0 ∧ ¬ N (11 + 9 * clK N m u) = -1 ∧ kN N (12 + 9 * clK N m u) ≤ newN N m u ∧ kN N (1173 + 3 * (10 * m + u)) + kN N (11 + 9 * clK N m u) ≤ D
/-- the plan at p says what is due on the days after d -/
def Pln (S : St) (p : Nat) (N : Nat → Int32) (d : Nat) : Prop := ∃ w, si S 713 p = nI w ∧ w ≤ bigD ∧ ∀ m u, m < kN N 7 → u < kN N 4 → ∃ v, ai S (p + 17) (10 * m + u) = nI v ∧ v ≤ bigD ∧ w ≤ v ∧ ∀ D, d < D → D < bigD → (v ≤ D ↔ dueP N m u D)
section Pa
variable {F : Nat} {S : St} {n p : Nat} {N B : Nat → Int32}
end Pa
