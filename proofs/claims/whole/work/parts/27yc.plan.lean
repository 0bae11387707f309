/-! when a reference leaves its class -/
def bigD : Nat := 1000000000
/-- the class of a reference -/
def clK (N : Nat → Int32) (m u : Nat) : Nat := kN N (1172 + 3 * (10 * m + u))
/-- the day that the class plans, k newer ones being in it -/
def dueV (N : Nat → Int32) (m u k : Nat) : Nat := if N (11 + 9 * clK N m u) = -1 then bigD else if kN N (12 + 9 * clK N m u) ≤ k then (if kN N 2 + 1 < kN N (1173 + 3 * (10 * m + u)) + kN N (11 + 9 * clK N m u) then kN N (1173 + 3 * (10 * m + u)) + kN N (11 + 9 * clK N m u) else kN N 2 + 1) else bigD
section Pl
variable {F : Nat} {S : St} {n p : Nat} {N B : Nat → Int32}
theorem clK_lt (w : WB N B) {m u : Nat} (hm : m < kN N 7) (hu : u < kN N 4) : clK N m u < kN N 3 ∧ clN N m u = nI (clK N m u) := by
  have b4 := w.n4.2
  have h := (w.wR m u hm (by omega)).2.2.2.2 hu
  exact ⟨h.2, h.1.1⟩
theorem dueV_le (w : WB N B) {m u k : Nat} (hm : m < kN N 7) (hu : u < kN N 4) : dueV N m u k ≤ bigD := by
  have b4 := w.n4.2
  have b2 := w.n2.2
  obtain ⟨c1, -⟩ := clK_lt w hm hu
  obtain ⟨q1, -, -⟩ := w.wC _ c1
  have e := (w.wR m u hm (by omega)).2.2.1.2
  unfold dueV
  by_cases z : N (11 + 9 * clK N m u) = -1
  · rw [if_pos z]; exact Nat.le_refl _
  have r := (q1.resolve_left z).1.2
  rw [if_neg z]
  unfold bigD
  split
  · split <;> omega
  · omega
theorem e_dueDay (C : Cl0 S n p N B) (hs : SpF S p) {m u k : Nat} (hm : m < kN N 7) (hu : u < kN N 4) (hk : k < 1000) : f_X8_dueDay F S p (nI m) (nI u) (nI k) = some (nI (dueV N m u k), S) := by
  have w := C.wb
  have b3 := w.n3.2
  have b4 := w.n4.2
  have b7 := w.n7.2
  have b2 := w.n2.2
  obtain ⟨c1, c2⟩ := clK_lt w hm hu
  obtain ⟨q1, q2, -⟩ := w.wC _ c1
  have ew := (w.wR m u hm (by omega)).2.2.1
  obtain ⟨r, h1, h2, h3⟩ := C.ru
  obtain ⟨r3, r4, -⟩ := h3.2.2.1 _ c1
  have hr := h3.1
  unfold f_X8_dueDay
  rw [e_retOf C hs hm hu, ob_some, c2]
  simp only [lt_eq]
  rw [h1, ob_some, hr.r603_0, ob_some, e_at (by rw [hr.l3]; omega) (by rw [hr.l3]; omega), ob_some, r3]
  simp only [lt_eq]
  unfold dueV
  by_cases z : N (11 + 9 * clK N m u) = -1
  · rw [if_pos z, if_pos z]; rfl
  obtain ⟨y1, -⟩ := q1.resolve_left z
  have y2 := y1.2
  have q22 := q2.2
  rw [if_neg z, if_neg z, h1, ob_some, hr.r604_0, ob_some, e_at (by rw [hr.l4]; omega) (by rw [hr.l4]; omega), ob_some, r4, q2.1]
  simp only [lt_eq]
  by_cases z2 : kN N (12 + 9 * clK N m u) ≤ k
  · have e1 : enN N m u = nI (kN N (1173 + 3 * (10 * m + u))) := ew.1
    have e3 := ew.2
    rw [if_pos (nI_le z2 (by omega)), if_pos z2, hs.r709_0, ob_some, e_entOf C hs hm (by omega), ob_some, C.s701, w.n2.1, e1, y1.1, nI_1, nI_add]
    simp only [lt_eq]
    by_cases z3 : kN N 2 + 1 < kN N (1173 + 3 * (10 * m + u)) + kN N (11 + 9 * clK N m u)
    · rw [if_pos (nI_lt z3 (by omega)), if_pos z3]
    · rw [if_neg (le_nlt.mp (nI_le (Nat.le_of_not_lt z3) (by omega))), if_neg z3]
  · rw [if_neg (fun y => z2 ((nI_leI (by omega) (by omega)).mp y)), if_neg z2]; rfl
end Pl
