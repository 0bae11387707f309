section Ag
variable {F : Nat} {S : St} {B : Nat → Int32}
end Ag
/-- what the model has noted of quiet days is right for the days after d -/
def TqI (N : Nat → Int32) (q gI : Int32) (d : Nat) : Prop := q = 0 ∨ (q = 1 ∧ ∃ g, gI = nI g ∧ g < 2 ^ 31 ∧ ∀ D, d < D → D < g → ∀ m u, m < kN N 7 → u < kN N 4 → ¬ dueP N m u D)
section Lt
variable {F : Nat} {S : St} {B : Nat → Int32}
theorem TqI.cong {N M : Nat → Int32} {X : Nat → Prop} {q gI : Int32} {d : Nat} (t : TqI N q gI d) (h : EqX X N M) (hX : ∀ k, X k → k = 2 ∨ xD k ∨ xI k) (w : WB N B) {d' : Nat} (hd : d ≤ d') : TqI M q gI d' := by
  have nX : ∀ k, (k = 7 ∨ k = 4) → ¬ X k := fun k h1 z => by
    have := hX k z
    unfold xD xI at this
    omega
  rcases t with t | ⟨t1, g, t2, t3, t4⟩
  · exact Or.inl t
  · refine Or.inr ⟨t1, g, t2, t3, fun D h1 h2 m u hm hu y => ?_⟩
    rw [h.kn (by omega) (by omega) (nX _ (by omega))] at hm hu
    exact t4 D (by omega) h2 m u hm hu ((dueP_c h hX w hm hu).mp y)
end Lt
