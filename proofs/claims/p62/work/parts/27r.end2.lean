/-! a reference ends: the class -/
/-- the rules and the states alone -/
def Vw (S : St) (n p : Nat) (N B : Nat → Int32) : Prop := WB N B ∧ (∃ r, sr S 700 p = some r ∧ (r = 1 ∨ dyn n r 19) ∧ CR S r N) ∧ si S 705 p = N 7 ∧ ∀ m u, m < kN N 7 → u < 10 → ai S (p + 3) (10 * m + u) = stN N m u ∧ True
section Vv
variable {F : Nat} {S : St} {n p : Nat} {N B : Nat → Int32}
theorem Vw.wb (h : Vw S n p N B) : WB N B := h.1
theorem Vw.ru (h : Vw S n p N B) : ∃ r, sr S 700 p = some r ∧ (r = 1 ∨ dyn n r 19) ∧ CR S r N := h.2.1
theorem Vw.s705 (h : Vw S n p N B) : si S 705 p = nI (kN N 7) := h.2.2.1.trans h.wb.n7.1
theorem Vw.cf (h : Vw S n p N B) : ∀ m u, m < kN N 7 → u < 10 → ai S (p + 3) (10 * m + u) = stN N m u ∧ True := h.2.2.2
end Vv
/-- the parts of m that nobody keeps -/
def dieP (N : Nat → Int32) (m q : Nat) : Prop := hasN N m q ∧ ¬ ∃ m', m' < kN N 7 ∧ hasN N m' q ∧ keptN N m'
/-- the spool when the reference's state becomes s, event a -/
noncomputable def seN (L : (Nat → Int32) → Int32 → Int32 → Nat → Int32) (N : Nat → Int32) (m u : Nat) (s a : Int32) : Nat → Int32 := pif (keptN (stS N m u s) m) (L (stS N m u s) a (nI m)) (buryN L (dieP (stS N m u s) m) (kN N 8) (L (stS N m u s) a (nI m)))
section Se
variable {S T : St} {n p m u c0 : Nat} {N M B : Nat → Int32} {s : Int32} {P : Nat → Prop}
end Se
