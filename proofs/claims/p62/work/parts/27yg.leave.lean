/-! one reference leaves its class -/
noncomputable def lv1 (L : (Nat → Int32) → Int32 → Int32 → Nat → Int32) (N B : Nat → Int32) (m u : Nat) : Nat → Int32 := if N (13 + 9 * clK N m u) = -1 then seN L N m u (if covN N B m u = 0 then 3 else 2) (if covN N B m u = 0 then 4 else 5) else L (updR N m u 0 (N (13 + 9 * clK N m u)) (N 2)) 3 (nI m)
theorem lv1_lo {L : (Nat → Int32) → Int32 → Int32 → Nat → Int32} {N B : Nat → Int32} {m u k : Nat} (hL : isLg L) (b8 : kN N 8 ≤ 480) (h : k < 6211) (h9 : ¬ k = 9) (hd : ¬ xD k) (h0 : ¬ k = 1171 + 3 * (10 * m + u)) (h1 : ¬ k = 1172 + 3 * (10 * m + u)) (h2 : ¬ k = 1173 + 3 * (10 * m + u)) : lv1 L N B m u k = N k := by
  unfold lv1
  by_cases z : N (13 + 9 * clK N m u) = -1
  · rw [if_pos z, seN_lo hL b8 h h9 hd, stS_n h0]
  · rw [if_neg z, (hL _ _ _).1 k h h9, updR_n h0 h1 h2]
section Lv
variable {F : Nat} {S : St} {n p m u : Nat} {N B : Nat → Int32}
/-- what leaving writes at the class's spool -/
def LvF (S T : St) (p : Nat) : Prop := (∀ i, ¬ i = p + 3 → ¬ i = p + 4 → ¬ i = p + 5 → ¬ i = p + 6 → ¬ i = p + 9 → ¬ i = p + 10 → ¬ (p + 13 ≤ i ∧ i ≤ p + 16) → SameO S T i) ∧ (∀ f i, sr T f i = sr S f i) ∧ ln T = ln S
theorem LvF.rf (S : St) (p : Nat) : LvF S S p := ⟨fun i _ _ _ _ _ _ _ => SameO.rf S i, fun _ _ => rfl, rfl⟩
theorem LvF.tr {T U : St} (h : LvF S T p) (g : LvF T U p) : LvF S U p := ⟨fun i a b c d e f k => (h.1 i a b c d e f k).tr (g.1 i a b c d e f k), fun f i => (g.2.1 f i).trans (h.2.1 f i), g.2.2.trans h.2.2⟩
end Lv
