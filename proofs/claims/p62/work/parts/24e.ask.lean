section A
variable {F : Nat} {xs : Nat → Int32} {L : Nat} {S : St} {n : Nat} {i : Int32}
theorem sub_eq0 {a b : Int32} : a - b = 0 ↔ a = b := by
  rw [Int32.sub_eq_iff_eq_add, Int32.zero_add]
theorem loopXm {α β γ : Type} (L : Nat → Nat → α → Option γ) (n : Nat) (step : Nat → α → β ⊕ α) (fin : α → β) (g : β → γ) : ∀ (fu k : Nat) (a : α), k ≤ n → n - k < fu → (∀ fu a, L (fu + 1) n a = some (g (fin a))) → (∀ fu k a, k < n → (∀ b, step k a = .inl b → L (fu + 1) k a = some (g b)) ∧ (∀ a', step k a = .inr a' → L (fu + 1) k a = L fu (k + 1) a')) → L fu k a = some (g (runL step fin (n - k) k a)) := by
  intro fu
  induction fu with
  | zero => intro k a _ h; exact absurd h (Nat.not_lt_zero _)
  | succ fu ih =>
    intro k a hk hf hstop hstep
    rcases Nat.lt_or_ge k n with h | h
    · have e : n - k = (n - (k + 1)) + 1 := by omega
      rw [e]
      obtain ⟨g1, g2⟩ := hstep fu k a h
      unfold runL
      cases hs : step k a with
      | inl b => exact g1 b hs
      | inr a' => rw [g2 a' hs]; exact ih (k + 1) a' (by omega) (by omega) hstop hstep
    · have e : k = n := by omega
      subst e
      rw [Nat.sub_self]
      exact hstop fu a
def atX (N : Nat → Int32) (x : Int32) : Option Nat := runL (fun q (a : Nat) => if isN N q = 1 then (if x = nI a then .inl (some q) else .inr (a + 1)) else .inr a) (fun _ => (none : Option Nat)) (kN N 8) 0 0
end A
