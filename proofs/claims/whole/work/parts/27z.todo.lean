/-! calls of the law that are still open -/
theorem ok_2 {F : Nat} {xs : Nat → Int32} {L : Nat} {S : St} {n : Nat} {i : Int32} (hF : 100000 ≤ F) (h : Rel S n) (hi : ∀ k : Nat, k < 6 → vp_in (i + nI k) L) : Ok (f_law2 F xs L S n 0 197 210 211 i) := sorry
theorem ok_11 {F : Nat} {xs : Nat → Int32} {L : Nat} {S : St} {n : Nat} {i : Int32} (hF : 100000 ≤ F) (h : Rel S n) (hi : ∀ k : Nat, k < 6 → vp_in (i + nI k) L) : Ok (f_law11 F xs L S n 0 197 210 211 i) := sorry
theorem ok_35 {F : Nat} {xs : Nat → Int32} {L : Nat} {S : St} {n : Nat} {i : Int32} (hF : 100000 ≤ F) (h : Rel S n) (hi : ∀ k : Nat, k < 6 → vp_in (i + nI k) L) : Ok (f_law35 F xs L S n 0 197 210 211 i) := sorry
theorem ok_38 {F : Nat} {xs : Nat → Int32} {L : Nat} {S : St} {n : Nat} {i : Int32} (hF : 100000 ≤ F) (h : Rel S n) (hi : ∀ k : Nat, k < 6 → vp_in (i + nI k) L) : Ok (f_law38 F xs L S n 0 197 210 211 i) := sorry
theorem ok_46 {F : Nat} {xs : Nat → Int32} {L : Nat} {S : St} {n : Nat} {i : Int32} (hF : 100000 ≤ F) (h : Rel S n) (hi : ∀ k : Nat, k < 6 → vp_in (i + nI k) L) : Ok (f_law46 F xs L S n 0 197 210 211 i) := sorry
theorem ok_48 {F : Nat} {xs : Nat → Int32} {L : Nat} {S : St} {n : Nat} {i : Int32} (hF : 100000 ≤ F) (h : Rel S n) (hi : ∀ k : Nat, k < 6 → vp_in (i + nI k) L) : Ok (f_law48 F xs L S n 0 197 210 211 i) := sorry
theorem ok_49 {F : Nat} {xs : Nat → Int32} {L : Nat} {S : St} {n : Nat} {i : Int32} (hF : 100000 ≤ F) (h : Rel S n) (hi : ∀ k : Nat, k < 6 → vp_in (i + nI k) L) : Ok (f_law49 F xs L S n 0 197 210 211 i) := sorry
theorem ok_50 {F : Nat} {xs : Nat → Int32} {L : Nat} {S : St} {n : Nat} {i : Int32} (hF : 100000 ≤ F) (h : Rel S n) (hi : ∀ k : Nat, k < 6 → vp_in (i + nI k) L) : Ok (f_law50 F xs L S n 0 197 210 211 i) := sorry
theorem ok_51 {F : Nat} {xs : Nat → Int32} {L : Nat} {S : St} {n : Nat} {i : Int32} (hF : 100000 ≤ F) (h : Rel S n) (hi : ∀ k : Nat, k < 6 → vp_in (i + nI k) L) : Ok (f_law51 F xs L S n 0 197 210 211 i) := sorry
theorem ok_57 {F : Nat} {xs : Nat → Int32} {L : Nat} {S : St} {n : Nat} {i : Int32} (hF : 100000 ≤ F) (h : Rel S n) (hi : ∀ k : Nat, k < 6 → vp_in (i + nI k) L) : Ok (f_law57 F xs L S n 0 197 210 211 i) := sorry
