/-! calls of the law that are still open -/
theorem ok_2 {F : Nat} {xs : Nat → Int32} {L : Nat} {S : St} {n : Nat} {i : Int32} (hF : 100000 ≤ F) (h : Rel S n) (hi : ∀ k : Nat, k < 6 → vp_in (i + nI k) L) : Ok (f_law2 F xs L S n 0 197 210 211 i) := sorry
