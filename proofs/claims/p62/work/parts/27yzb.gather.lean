/-! the readers of each part: the class -/
/-- a user has a live reference to a message that has the part -/
def rdP (N : Nat → Int32) (u q : Nat) : Prop := ∃ m, m < kN N 7 ∧ stN N m u = 0 ∧ hasN N m q
/-- the same, as far as it is known: messages below m, and the first i parts of m -/
def vsP (N : Nat → Int32) (m i u q : Nat) : Prop := ∃ m', stN N m' u = 0 ∧ ((m' < m ∧ m' < kN N 7 ∧ hasN N m' q) ∨ (m' = m ∧ ∃ k, k < i ∧ partN N m k = q))
/-- a row of sets of users -/
def RowB (N R : Nat → Int32) (P : Nat → Nat → Prop) : Prop := ∀ q, q < 480 → ∃ b, b < 1024 ∧ R q = nI b ∧ ∀ u, u < 10 → (b.testBit u = true ↔ u < kN N 4 ∧ P u q)
theorem RowB.c {N R : Nat → Int32} {P Q : Nat → Nat → Prop} (h : RowB N R P) (e : ∀ u q, P u q ↔ Q u q) : RowB N R Q := fun q hq => by
  obtain ⟨b, b1, b2, b3⟩ := h q hq
  exact ⟨b, b1, b2, fun u hu => by rw [b3 u hu, e]⟩
theorem bit10 : ∀ u, u < 10 → (1 : Int32) <<< (nI u &&& 31) = nI (2 ^ u) := by decide +kernel
section Ga
variable {F : Nat} {S : St} {n : Nat} {N B : Nat → Int32}
theorem users_bits (w : WB N B) {m : Nat} (hm : m < kN N 7) : ∃ b, b < 1024 ∧ runN (fun u (a : Int32) => if stN N m u < 0 then a else if 0 < stN N m u then a else a ||| (1 <<< (nI u &&& 31))) (kN N 4) 0 0 = nI b ∧ ∀ u, u < 10 → (b.testBit u = true ↔ u < kN N 4 ∧ stN N m u = 0) := by
  have b4 := w.n4.2
  have key : ∀ x, x ≤ kN N 4 → ∃ b, b < 1024 ∧ runN (fun u (a : Int32) => if stN N m u < 0 then a else if 0 < stN N m u then a else a ||| (1 <<< (nI u &&& 31))) x 0 0 = nI b ∧ ∀ u, u < 10 → (b.testBit u = true ↔ u < x ∧ stN N m u = 0) := by
    intro x
    induction x with
    | zero => intro _; exact ⟨0, by omega, rfl, fun u _ => by simp⟩
    | succ x ih =>
      intro hx
      obtain ⟨b, b1, b2, b3⟩ := ih (by omega)
      rw [runN_s, Nat.zero_add, b2]
      have st := (w.wR m x hm (by omega)).1
      by_cases z : stN N m x = 0
      · rw [z, if_neg (show ¬ (0 : Int32) < 0 by decide), if_neg (show ¬ (0 : Int32) < 0 by decide), bit10 x (by omega), nI_or]
        refine ⟨b ||| 2 ^ x, Nat.or_lt_two_pow (n := 10) b1 (Nat.pow_lt_pow_right (by omega) (by omega)), rfl, fun u hu => ?_⟩
        rw [Nat.testBit_or, Bool.or_eq_true, b3 u hu, Nat.testBit_two_pow, decide_eq_true_eq]
        constructor
        · rintro (y | y)
          · exact ⟨by omega, y.2⟩
          · exact ⟨by omega, by rw [← y]; exact z⟩
        · rintro ⟨y1, y2⟩
          by_cases e : u = x
          · exact Or.inr e.symm
          · exact Or.inl ⟨by omega, y2⟩
      · have e : (if stN N m x < 0 then nI b else if 0 < stN N m x then nI b else nI b ||| (1 <<< (nI x &&& 31))) = nI b := by
          rcases st with y | y | y | y | y
          · rw [y, if_pos (by decide)]
          · exact absurd y z
          · rw [y, if_neg (by decide), if_pos (by decide)]
          · rw [y, if_neg (by decide), if_pos (by decide)]
          · rw [y, if_neg (by decide), if_pos (by decide)]
        rw [e]
        refine ⟨b, b1, rfl, fun u hu => (b3 u hu).trans ⟨fun y => ⟨by omega, y.2⟩, fun y => ⟨?_, y.2⟩⟩⟩
        by_cases e : u = x
        · rw [e] at y; exact absurd y.2 z
        · omega
  exact key (kN N 4) (Nat.le_refl _)
def is196 (i : Nat) : Prop := i = 196
end Ga
