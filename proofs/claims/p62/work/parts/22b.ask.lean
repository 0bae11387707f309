section Net
variable {F : Nat} {S : St} {n : Nat}
theorem isCnt.eq {N : Nat → Int32} {i b : Nat} (h : isCnt N i b) : N i = nI (kN N i) := h.1
theorem e_has {p k : Nat} {x : Int32} (hk : si S 401 p = nI k) : f_X5_has F S p x = some (bI (0 ≤ x ∧ x < nI k), S) := by
  unfold f_X5_has
  rw [hk]
  by_cases h1 : x < 0
  · rw [if_pos h1, bI_f (fun z => (le_nlt.mp z.1) h1)]
  · rw [if_neg h1]
    by_cases h2 : nI k ≤ x
    · rw [if_pos h2, bI_f (fun z => le_nlt.mp h2 z.2)]
    · rw [if_neg h2, bI_t ⟨le_nlt.mpr h1, by rw [le_nlt] at h2; exact Classical.not_not.mp h2⟩]
theorem ne_bI {β : Type} (p : Prop) [Decidable p] (a b : β) : (if ¬ bI p = 0 then a else b) = if p then a else b := by
  by_cases h : p
  · rw [bI_t h, if_pos h]; rfl
  · rw [bI_f h, if_neg h]; rfl
theorem eq_bI {β : Type} (p : Prop) [Decidable p] (a b : β) : (if bI p = 0 then a else b) = if p then b else a := by
  by_cases h : p
  · rw [bI_t h, if_pos h]; rfl
  · rw [bI_f h, if_neg h]; rfl
/-- an index of an array in range -/
theorem e_at {p k : Nat} (hk : k < ln S p) (hl : ln S p < 2 ^ 31) : f_X10_at F S p (nI k) = some (ai S p k, S) := by
  unfold f_X10_at
  have a1 : ¬ nI k < 0 := nI_pos (by omega)
  have a2 : ¬ nI (ln S p) ≤ nI k := nI_ge hk hl
  rw [if_neg a1, if_neg a2, cki_nI hk hl, nI_clamp (by omega)]
theorem e_needWhat (x : Int32) (k : Nat) (hk : k < 100) : f_X10_needWhat F S x (nI k) = some (if 0 ≤ x ∧ x < nI (k + 1) then .inr () else .inl 2, S) := by
  unfold f_X10_needWhat f_X10_needWhat_L9
  by_cases h1 : x < 0
  · rw [if_pos h1, if_neg (fun z => (le_nlt.mp z.1) h1)]
  · rw [if_neg h1]
    have e : x ≤ nI k ↔ x < nI (k + 1) := by
      rw [Int32.le_iff_toInt_le, Int32.lt_iff_toInt_lt, nI_toInt (by omega), nI_toInt (by omega)]
      omega
    by_cases h2 : x ≤ nI k
    · rw [if_pos h2, if_pos ⟨le_nlt.mpr h1, e.mp h2⟩]
    · rw [if_neg h2, if_neg (fun z => h2 (e.mpr z.2))]
end Net
