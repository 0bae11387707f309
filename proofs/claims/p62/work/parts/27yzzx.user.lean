section Us
variable {F : Nat} {f D : Nat → Int32} {L n r s : Nat} {C0 M0 C M C' M' : St}
theorem byu {E : Nat → Int32} {i x : Nat} {v : Int32} (hi : 11 ≤ i) (h : bey E x) : bey (upd E i v) x := by unfold bey at h ⊢; rw [d_k (k := 3) (by omega), d_k (k := 4) (by omega), d_k (k := 5) (by omega), d_k (k := 6) (by omega)]; exact h
theorem nI_nm {i : Nat} (h : i < 2 ^ 31) : ¬ nI i = (-1 : Int32) := fun y => absurd (show (0 : Int32) ≤ nI i from nI_le (a := 0) (by omega) h) (by rw [y]; decide)
end Us
