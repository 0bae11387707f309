/-! days pass: both sides, and the call -/
noncomputable def dysN (L : (Nat → Int32) → Int32 → Int32 → Nat → Int32) (B N : Nat → Int32) (i : Nat) : (Nat → Int32) × Nat := runN (fun _ a => ((dyN L B a.1).1, a.2 + (dyN L B a.1).2)) i 0 (N, 0)
section Dys
variable {F : Nat} {S : St} {n p : Nat} {N B : Nat → Int32} {L : (Nat → Int32) → Int32 → Int32 → Nat → Int32}
end Dys
section Adv
variable {F : Nat} {S : St} {n : Nat} {N B : Nat → Int32}
theorem BdF.fx {T : St} (f : BdF S T 27) (hx : FxF S) : FxF T := hx.agr (fun g i _ _ => f.2.1 g i) (fun i _ => by rw [f.2.2]) (f.1 69 (by omega)).2.2.2.2.1
end Adv
