section An
variable {N0 B a : Nat → Int32} {D m x : Nat} {L : (Nat → Int32) → Int32 → Int32 → Nat → Int32}
end An
section Sn
variable {F : Nat} {S : St} {B : Nat → Int32} {m x : Nat}
end Sn
section Mla
variable {F : Nat} {S : St} {B : Nat → Int32} {L : (Nat → Int32) → Int32 → Int32 → Nat → Int32} {th : Int32}
/-- every net on the way is well-formed -/
def lvW (L : (Nat → Int32) → Int32 → Int32 → Nat → Int32) (B N0 : Nat → Int32) (D : Nat) : Prop := ∀ m x, m < kN N0 7 → x ≤ kN N0 4 → WF (lvU L B N0 D m x (lvN L B N0 D m)) B
end Mla
