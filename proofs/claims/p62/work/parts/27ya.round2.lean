/-! the round, day by day: dead parts whose time is over go -/
def remP (N : Nat → Int32) (q : Nat) : Prop := isN N q = 1 ∧ ¬ deN N q = -1 ∧ N 0 ≤ N 2 - deN N q
noncomputable def rndN (L : (Nat → Int32) → Int32 → Int32 → Nat → Int32) (x : Nat) (N : Nat → Int32) : (Nat → Int32) × Nat := runN (fun q a => pif (remP a.1 q) (L (upd a.1 (4772 + 3 * q) 0) 8 (nI q), a.2 + 1) a) x 0 (N, 0)
/-- the places of whether a part is stored -/
def xI (k : Nat) : Prop := 4771 ≤ k ∧ k < 6211 ∧ k % 3 = 2
section Rn
variable {L : (Nat → Int32) → Int32 → Int32 → Nat → Int32} {N B : Nat → Int32}
theorem rndN_s {x : Nat} : rndN L (x + 1) N = pif (remP (rndN L x N).1 x) (L (upd (rndN L x N).1 (4772 + 3 * x) 0) 8 (nI x), (rndN L x N).2 + 1) (rndN L x N) := by
  unfold rndN
  rw [runN_s, Nat.zero_add]
end Rn
section Rc
variable {F : Nat} {S : St} {n p : Nat} {N B : Nat → Int32}
end Rc
