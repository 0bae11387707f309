section Cg3
variable {N M B a b : Nat → Int32} {L L' : (Nat → Int32) → Int32 → Int32 → Nat → Int32}
theorem EqC.lg (hL : isLg L) (hL' : isLg L') (h : EqC N M) (x y x' y' : Int32) : EqC (L N x y) (L' M x' y') := fun k h1 h9 => ((hL' M x' y').1 k h1 h9).trans ((h k h1 h9).trans ((hL N x y).1 k h1 h9).symm)
theorem EqC.up (h : EqC N M) (i : Nat) {v v' : Int32} (e : v' = v) : EqC (upd N i v) (upd M i v') := fun k h1 h9 => by
  by_cases z : k = i
  · rw [z, upd_e, upd_e, e]
  · rw [upd_n z, upd_n z]; exact h k h1 h9
theorem due_cg (h : EqC N M) (w : WB N B) {m u D : Nat} (hm : m < kN N 7) (hu : u < kN N 4) : dueP M m u D ↔ dueP N m u D := dueP_c (X := fun _ => False) (fun k h1 h9 _ => h k h1 h9) (fun k z => z.elim) w hm hu
end Cg3
section Hi
variable {N B a : Nat → Int32}
def hiP (k : Nat) : Prop := k = 9 ∨ 6211 ≤ k
end Hi
