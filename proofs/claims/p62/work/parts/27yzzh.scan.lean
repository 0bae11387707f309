/-! the next token: the model -/
def scM (g : Nat) : Prop := 1009 ≤ g ∧ g ≤ 1012
def noA (_ : Nat) : Prop := False
def numK (f : Nat → Int32) (s c : Nat) : Int32 := runN (fun k v => if 10 * v + byK f (s + k) - 48 < 999999 then 10 * v + byK f (s + k) - 48 else 999999) c 0 0
section Sm
variable {F : Nat} {S : St} {f : Nat → Int32} {L : Nat}
theorem by_rng {a : Int32} (h : a.toInt8.toInt32 = a) : ¬ a &&& 255 = -1 := by
  obtain ⟨n, n1, n2⟩ := i8_ex a h
  rw [n2]
  exact (show ∀ n, n < 256 → ¬ (Int8.ofNat n).toInt32 &&& 255 = -1 by decide +kernel) n n1
end Sm
