/-! all that are due leave: the class -/
noncomputable def lvU (L : (Nat → Int32) → Int32 → Int32 → Nat → Int32) (B N0 : Nat → Int32) (D m x : Nat) (a : Nat → Int32) : Nat → Int32 := runN (fun u a => pif (dueP N0 m u D) (lv1 L a B m u) a) x 0 a
noncomputable def lvN (L : (Nat → Int32) → Int32 → Int32 → Nat → Int32) (B N0 : Nat → Int32) (D x : Nat) : Nat → Int32 := runN (fun m a => lvU L B N0 D m (kN N0 4) a) x 0 N0
/-- what has not been visited yet stands as before -/
def lvS (N0 : Nat → Int32) (m x : Nat) (a : Nat → Int32) : Prop := ∀ k, k < 6211 → ¬ k = 9 → ¬ xD k → (k < 1171 ∨ 4771 ≤ k ∨ 1171 + 3 * (10 * m + x) ≤ k) → a k = N0 k
section Lw
variable {L : (Nat → Int32) → Int32 → Int32 → Nat → Int32} {N0 B a : Nat → Int32} {D m x : Nat}
theorem lvU_s : lvU L B N0 D m (x + 1) a = pif (dueP N0 m x D) (lv1 L (lvU L B N0 D m x a) B m x) (lvU L B N0 D m x a) := by
  unfold lvU
  rw [runN_s, Nat.zero_add]
theorem lvN_s : lvN L B N0 D (x + 1) = lvU L B N0 D x (kN N0 4) (lvN L B N0 D x) := by
  unfold lvN
  rw [runN_s, Nat.zero_add]
theorem lvS.nums (h : lvS N0 m x a) {k : Nat} (hk : k < 1171) (h9 : ¬ k = 9) : a k = N0 k := h k (by omega) h9 (by unfold xD; omega) (Or.inl hk)
theorem lvS.kn (h : lvS N0 m x a) {k : Nat} (hk : k < 1171) (h9 : ¬ k = 9) : kN a k = kN N0 k := by unfold kN; rw [h.nums hk h9]
theorem lvS.step (hL : isLg L) (h : lvS N0 m x a) (b8 : kN N0 8 ≤ 480) (hm : m < 120) (hx : x < 10) : lvS N0 m (x + 1) (pif (dueP N0 m x D) (lv1 L a B m x) a) := by
  intro k h1 h9 hd hr
  by_cases z : dueP N0 m x D
  · rw [pif_t z, lv1_lo hL (by rw [h.kn (by omega) (by omega)]; exact b8) h1 h9 hd (by omega) (by omega) (by omega)]
    exact h k h1 h9 hd (by omega)
  · rw [pif_f z]; exact h k h1 h9 hd (by omega)
end Lw
section Lx
variable {F : Nat} {S : St} {n p d : Nat} {N0 B : Nat → Int32}
end Lx
