section Ml2
variable {F : Nat} {S : St} {f : Nat → Int32} {L : Nat} {B : Nat → Int32}
/-- the bytes of the store with the new parts -/
noncomputable def bwN (N B f : Nat → Int32) (L x : Nat) : Int32 := runN (fun j a => pif (fsC f L j ∧ ¬ nbC N B f L j < kN N 8) (a + nI (lC f L j)) a) x 0 (stoN N)
theorem bwN_s {N B f : Nat → Int32} {L x : Nat} : bwN N B f L (x + 1) = pif (fsC f L x ∧ ¬ nbC N B f L x < kN N 8) (bwN N B f L x + nI (lC f L x)) (bwN N B f L x) := by
  unfold bwN
  rw [runN_s, Nat.zero_add]
theorem nbI_n1 {N B f : Nat → Int32} {L j : Nat} (b8 : kN N 8 ≤ 480) : nbI N B f L j = -1 ↔ ¬ nbC N B f L j < kN N 8 := by
  unfold nbI
  by_cases z : nbC N B f L j < kN N 8
  · rw [if_pos z]
    exact ⟨fun y => absurd y (nI_nm1 (by omega)), fun y => absurd z y⟩
  · rw [if_neg z]
    exact ⟨fun _ => z, fun _ => rfl⟩
/-- the size of the content -/
def szC (f : Nat → Int32) (L x : Nat) : Nat := runN (fun j a => a + lC f L j) x 0 0
theorem szC_s {f : Nat → Int32} {L x : Nat} : szC f L (x + 1) = szC f L x + lC f L x := by
  unfold szC
  rw [runN_s, Nat.zero_add]
end Ml2
