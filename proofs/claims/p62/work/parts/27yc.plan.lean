/-! when a reference leaves its class -/
def bigD : Nat := 1000000000
/-- the class of a reference -/
def clK (N : Nat → Int32) (m u : Nat) : Nat := kN N (1172 + 3 * (10 * m + u))
section Pl
variable {F : Nat} {S : St} {n p : Nat} {N B : Nat → Int32}
theorem clK_lt (w : WB N B) {m u : Nat} (hm : m < kN N 7) (hu : u < kN N 4) : clK N m u < kN N 3 ∧ clN N m u = nI (clK N m u) := by
  have b4 := w.n4.2
  have h := (w.wR m u hm (by omega)).2.2.2.2 hu
  exact ⟨h.2, h.1.1⟩
end Pl
