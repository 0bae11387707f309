/-- two places are equal; a place is the first of its kind -/
def smC (f : Nat → Int32) (L i j : Nat) : Prop := lC f L i = lC f L j ∧ ∀ k, k < lC f L i → f (cC f L i + k) = f (cC f L j + k)
def fsC (f : Nat → Int32) (L j : Nat) : Prop := ∀ i, i < j → ¬ smC f L i j
/-- a stored part is what lies at a place -/
def lkP (N B f : Nat → Int32) (L j q : Nat) : Prop := isN N q = 1 ∧ kN N (4771 + 3 * q) = lC f L j ∧ ∀ k, k < lC f L j → B (200 * q + k) = f (cC f L j + k)
/-- the first number that is so -/
noncomputable def fnd (P : Nat → Prop) : Nat → Nat → Nat
  | 0, k => k
  | d + 1, k => pif (P k) k (fnd P d (k + 1))
theorem fnd_s (P : Nat → Prop) (d k : Nat) : fnd P (d + 1) k = pif (P k) k (fnd P d (k + 1)) := rfl
theorem fnd_sp {P : Nat → Prop} : ∀ d k, k ≤ fnd P d k ∧ fnd P d k ≤ k + d ∧ (∀ x, k ≤ x → x < fnd P d k → ¬ P x) ∧ (fnd P d k < k + d → P (fnd P d k)) := by
  intro d
  induction d with
  | zero => intro k; exact ⟨Nat.le_refl _, Nat.le_refl _, fun x h1 h2 => by unfold fnd at h2; omega, fun h => by unfold fnd at h; omega⟩
  | succ d ih =>
    intro k
    rw [fnd_s]
    by_cases z : P k
    · rw [pif_t z]; exact ⟨Nat.le_refl _, by omega, fun x h1 h2 => by omega, fun _ => z⟩
    · rw [pif_f z]
      obtain ⟨a, b, c, e⟩ := ih (k + 1)
      refine ⟨by omega, by omega, fun x h1 h2 => ?_, fun h => e (by omega)⟩
      by_cases y : x = k
      · rw [y]; exact z
      · exact c x (by omega) h2
theorem fnd_eq {P : Nat → Prop} {b x : Nat} (hx : x < b) (h : P x) (lo : ∀ y, y < x → ¬ P y) : fnd P b 0 = x := by
  obtain ⟨-, a, c, e⟩ := fnd_sp (P := P) b 0
  rcases Nat.lt_trichotomy (fnd P b 0) x with y | y | y
  · exact absurd (e (by omega)) (lo _ y)
  · exact y
  · exact absurd h (c x (by omega) y)
theorem fnd_no {P : Nat → Prop} {b : Nat} (h : ∀ x, x < b → ¬ P x) : fnd P b 0 = b := by
  obtain ⟨-, a, c, e⟩ := fnd_sp (P := P) b 0
  by_cases y : fnd P b 0 < b
  · exact absurd (e (by omega)) (h _ y)
  · omega
noncomputable def nbC (N B f : Nat → Int32) (L j : Nat) : Nat := fnd (lkP N B f L j) (kN N 8) 0
/-- as a number; none is -1 -/
noncomputable def nbI (N B f : Nat → Int32) (L j : Nat) : Int32 := if nbC N B f L j < kN N 8 then nI (nbC N B f L j) else -1
section Mc
variable {F : Nat} {S : St} {f : Nat → Int32} {L : Nat}
end Mc
