theorem e_byteAt (F : Nat) {S : St} {j r L k : Nat} (h0 : sr S 0 j = some r) (h1 : si S 1 j = nI L) (hL : L ≤ ln S r) (hb : ln S r < 2 ^ 31) (hk : k < L) : f_X0_byteAt F S j (nI k) = some (ai S r k &&& 255, S) := by
  unfold f_X0_byteAt
  rw [if_neg (nI_pos (by omega)), h1, if_neg (nI_ge hk (by omega)), h0, ob_some, if_neg (nI_ge (by omega) hb), ob_some, cki_nI (by omega) hb, nI_clamp (by omega)]
theorem i32_max {e d t l : Int32} (q : e + d < t ↔ 0 < t - e - d) : (if e + d < t then t else e + d) + l - d = e + (if 0 < t - e - d then t - e - d else 0) + l := by
  by_cases c : e + d < t
  · rw [if_pos c, if_pos (q.mp c)]
    grind
  · rw [if_neg c, if_neg (fun z => c (q.mpr z))]
    grind
theorem max_q {e d t : Nat} (he : e ≤ 22000) (hd : d ≤ 999) (ht : t ≤ 22001) : (nI e + nI d < nI t ↔ 0 < nI t - nI e - nI d) := by
  rw [nI_add, nI_ltI (by omega) (by omega), Int32.lt_iff_toInt_lt, Int32.toInt_sub, Int32.toInt_sub, nI_toInt (by omega), nI_toInt (by omega), nI_toInt (by omega), Int.bmod_def, Int.bmod_def]
  show _ ↔ (0 : Int) < _
  split <;> split <;> omega
section A
variable {F : Nat} {xs : Nat → Int32} {L : Nat} {S : St} {n : Nat} {i : Int32}
theorem what3 {y : Int32} (h : 0 ≤ y ∧ y < nI 3) : y = 0 ∨ y = 1 ∨ y = 2 := by
  obtain ⟨j, hj, rfl⟩ := ix (by omega) h
  rcases (show j = 0 ∨ j = 1 ∨ j = 2 by omega) with rfl | rfl | rfl
  · exact Or.inl rfl
  · exact Or.inr (Or.inl rfl)
  · exact Or.inr (Or.inr rfl)
end A
