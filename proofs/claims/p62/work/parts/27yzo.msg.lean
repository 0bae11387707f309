/-! the new message itself: the model -/
/-- the rows of message m: sender, day, how many parts, references of the users below x -/
noncomputable def hp (m i x : Nat) (snd d : Int32) (rd : Nat → Prop) (cl : Nat → Int32) (X : Nat → Int32) : Nat → Int32 := fun k =>
  if k = 331 + 7 * m then snd else if k = 332 + 7 * m then d else if k = 333 + 7 * m then nI i else
  if 1171 + 30 * m ≤ k ∧ k < 1171 + 30 * m + 3 * x then (if (k - (1171 + 30 * m)) % 3 = 0 then pif (rd ((k - (1171 + 30 * m)) / 3)) 0 (-1) else if (k - (1171 + 30 * m)) % 3 = 1 then cl ((k - (1171 + 30 * m)) / 3) else d) else X k
noncomputable def hy (m i : Nat) (snd d : Int32) (rd : Nat → Prop) (cl : Nat → Int32) (X : Nat → Int32) : Nat → Int32 := upd (hp m i 10 snd d rd cl X) 7 (nI (m + 1))
section Hp
variable {m i x : Nat} {snd d : Int32} {rd : Nat → Prop} {cl X : Nat → Int32}
theorem hp_n {k : Nat} (h1 : ¬ k = 331 + 7 * m) (h2 : ¬ k = 332 + 7 * m) (h3 : ¬ k = 333 + 7 * m) (h4 : k < 1171 + 30 * m ∨ 1171 + 30 * m + 3 * x ≤ k) : hp m i x snd d rd cl X k = X k := by
  unfold hp
  rw [if_neg h1, if_neg h2, if_neg h3, if_neg (by omega)]
theorem hy_n {k : Nat} (h7 : ¬ k = 7) (h1 : ¬ k = 331 + 7 * m) (h2 : ¬ k = 332 + 7 * m) (h3 : ¬ k = 333 + 7 * m) (h4 : k < 1171 + 30 * m ∨ 1201 + 30 * m ≤ k) : hy m i snd d rd cl X k = X k := by
  unfold hy
  rw [upd_n h7, hp_n h1 h2 h3 (by omega)]
theorem hy_7 : hy m i snd d rd cl X 7 = nI (m + 1) := upd_e _ _ _
theorem hy_s : hy m i snd d rd cl X (331 + 7 * m) = snd := by
  unfold hy hp
  rw [upd_n (by omega), if_pos rfl]
theorem hy_d : hy m i snd d rd cl X (332 + 7 * m) = d := by
  unfold hy hp
  rw [upd_n (by omega), if_neg (by omega), if_pos rfl]
theorem hy_m : hy m i snd d rd cl X (333 + 7 * m) = nI i := by
  unfold hy hp
  rw [upd_n (by omega), if_neg (by omega), if_neg (by omega), if_pos rfl]
theorem hy_r {u : Nat} (hm : m < 120) (hu : u < 10) : hy m i snd d rd cl X (1171 + 3 * (10 * m + u)) = pif (rd u) 0 (-1) ∧ hy m i snd d rd cl X (1172 + 3 * (10 * m + u)) = cl u ∧ hy m i snd d rd cl X (1173 + 3 * (10 * m + u)) = d := by
  unfold hy hp
  refine ⟨?_, ?_, ?_⟩
  · rw [upd_n (by omega), if_neg (by omega), if_neg (by omega), if_neg (by omega), if_pos (by omega), if_pos (by omega), show (1171 + 3 * (10 * m + u) - (1171 + 30 * m)) / 3 = u by omega]
  · rw [upd_n (by omega), if_neg (by omega), if_neg (by omega), if_neg (by omega), if_pos (by omega), if_neg (by omega), if_pos (by omega), show (1172 + 3 * (10 * m + u) - (1171 + 30 * m)) / 3 = u by omega]
  · rw [upd_n (by omega), if_neg (by omega), if_neg (by omega), if_neg (by omega), if_pos (by omega), if_neg (by omega), if_neg (by omega)]
end Hp
section Mm
variable {F : Nat} {S : St} {f : Nat → Int32} {L : Nat}
end Mm
