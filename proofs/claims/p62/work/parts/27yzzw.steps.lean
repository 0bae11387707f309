section Ms
variable {F : Nat} {f D : Nat → Int32} {L n r s : Nat} {C0 M0 C M C' M' : St}
theorem e_full {q c k : Nat} (h0 : sr C 400 q = some (q + 1)) (h1 : si C 401 q = nI c) (hl : ln C (q + 1) = k) (hk : k < 100) (hc : c ≤ k) : f_X5_isFull F C q = some (if c < k then 0 else 1, C) := by
  unfold f_X5_isFull
  rw [h0, ob_some, h1, hl]
  by_cases z : c < k
  · rw [if_pos (nI_lt z (by omega)), if_pos z]
  · rw [if_neg (nI_nlt (by omega) (by omega)), if_neg z]
end Ms
