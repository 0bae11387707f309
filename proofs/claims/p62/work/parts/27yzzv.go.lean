/-! one step of reading: both sides go on, or both fail -/
def scE (g : Nat) : Prop := 1009 ≤ g ∧ g ≤ 1014
/-- what a draft holds beside its rows -/
def Zd (D : Nat → Int32) : Prop := (isCnt D 0 30 ∧ isCnt D 1 30 ∧ 1 ≤ kN D 1) ∧ (D 2 = 0 ∧ (∀ k, 7 ≤ k → k < 11 → D k = 0) ∧ ∀ k, 331 ≤ k → k < 6391 → D k = 0) ∧ ∀ h, h < kN D 6 → D (208 + 21 * h) = 1
/-- rows of a draft beyond its counts -/
def bey (D : Nat → Int32) (k : Nat) : Prop := (11 + 9 * kN D 3 ≤ k ∧ k < 83) ∨ (83 + 8 * kN D 4 ≤ k ∧ k < 163) ∨ (163 + 7 * kN D 5 ≤ k ∧ k < 205) ∨ (205 + 21 * kN D 6 ≤ k ∧ k < 331)
section Gs
variable {F : Nat} {f D : Nat → Int32} {L n r s : Nat} {C0 M0 C M C' M' : St}
theorem nx_le (h : s ≤ L) : s ≤ nxK f L s ∧ nxK f L s ≤ L := by
  have a := enK_le (f := f) h
  have b := nbK_le (f := f) a.2
  exact ⟨Nat.le_trans a.1 b.1, b.2⟩
theorem en_gt (h : s < L) : s < enK f L s := by
  by_cases a : letB (byK f s)
  · rw [(tk_1 h a).2]
    have e : weK f L s = pif (¬ letB (byK f s)) s (weK f L (s + 1)) := by
      unfold weK
      rw [show L - s = (L - (s + 1)) + 1 by omega, fnd_s]
    rw [e, pif_f (fun y => y a)]
    have := weK_le (f := f) (p := s + 1) (L := L) (by omega)
    omega
  by_cases b : digB (byK f s)
  · rw [(tk_2 h a b).2]
    have e : deK f L s = pif (¬ digB (byK f s)) s (deK f L (s + 1)) := by
      unfold deK
      rw [show L - s = (L - (s + 1)) + 1 by omega, fnd_s]
    rw [e, pif_f (fun y => y b)]
    have := deK_le (f := f) (p := s + 1) (L := L) (by omega)
    omega
  · rw [(tk_3 h a b).2]; omega
theorem nx_gt (h : s < L) : s < nxK f L s := by
  have a := enK_le (f := f) (L := L) (s := s) (by omega)
  have b := nbK_le (f := f) a.2
  have c := en_gt (f := f) h
  unfold nxK
  omega
end Gs
