/-- how the model's journal is written, in thought or not -/
def isTh (L : (Nat → Int32) → Int32 → Int32 → Nat → Int32) (th : Int32) : Prop := (th = 0 ∧ L = lgN) ∨ (th = 1 ∧ L = lg0)
theorem isTh.lg {L : (Nat → Int32) → Int32 → Int32 → Nat → Int32} {th : Int32} (h : isTh L th) : isLg L := by
  rcases h with ⟨-, rfl⟩ | ⟨-, rfl⟩
  · exact isLg_lg
  · exact isLg_0
section Mo
variable {F : Nat} {S : St} {m u : Nat} {B : Nat → Int32} {L : (Nat → Int32) → Int32 → Int32 → Nat → Int32} {th : Int32}
end Mo
