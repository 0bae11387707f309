/-! delete -/
theorem seN_lo {L : (Nat → Int32) → Int32 → Int32 → Nat → Int32} {N : Nat → Int32} {m u k : Nat} {s a : Int32} (hL : isLg L) (b8 : kN N 8 ≤ 480) (h : k < 6211) (h9 : ¬ k = 9) (hd : ¬ xD k) : seN L N m u s a k = stS N m u s k := by
  unfold seN
  by_cases z : keptN (stS N m u s) m
  · rw [pif_t z]; exact (hL _ _ _).1 k h h9
  · rw [pif_f z]
    exact ((buryN_de (L := L) (P := dieP (stS N m u s) m) (N := L (stS N m u s) a (nI m)) (B := N) hL (kN N 8) b8).1 k h h9 hd).trans ((hL _ _ _).1 k h h9)
section Mc
variable {F : Nat} {S : St} {m u : Nat} {B : Nat → Int32} {L : (Nat → Int32) → Int32 → Int32 → Nat → Int32} {th : Int32}
end Mc
section A
variable {F : Nat} {xs : Nat → Int32} {L : Nat} {S : St} {n : Nat} {i : Int32}
end A
