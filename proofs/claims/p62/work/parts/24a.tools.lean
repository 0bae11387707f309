section Nd
variable {F : Nat} {S : St} {n : Nat}
end Nd
section LkT
variable {F : Nat} {S : St}
theorem e_usersSet {n p : Nat} {N B : Nat → Int32} (C : Cl0 S n p N B) (hs : SpF S p) {m : Nat} (hm : m < kN N 7) (lo hi : Int32) (hF : 1000 ≤ F) : f_X8_usersIn F S p (nI m) lo hi = some (nI (bitsN (fun u => lo ≤ stN N m u ∧ stN N m u ≤ hi) (kN N 4)), S) := by
  have b4 := C.wb.n4.2
  rw [e_usersIn C hs hm lo hi hF, or_run (P := fun u => lo ≤ stN N m u ∧ stN N m u ≤ hi) _ (by omega) (fun k a _ => ?_)]
  by_cases c1 : stN N m k < lo
  · rw [if_pos c1, pif_f (fun z => (le_nlt.mp z.1) c1)]
  rw [if_neg c1]
  by_cases c2 : hi < stN N m k
  · rw [if_pos c2, pif_f (fun z => (le_nlt.mp z.2) c2)]
  · rw [if_neg c2, pif_t ⟨le_nlt.mpr c1, le_nlt.mpr c2⟩]
theorem eq0 {x : Int32} : (0 ≤ x ∧ x ≤ 0) ↔ x = 0 := by
  rw [Int32.le_iff_toInt_le, Int32.le_iff_toInt_le, ← Int32.toInt_inj]
  exact ⟨fun z => by have := z.1; have := z.2; omega, fun z => by rw [z]; exact ⟨Int.le_refl _, Int.le_refl _⟩⟩
end LkT
