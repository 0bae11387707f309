/-! the model goes on after an error: nothing but the draft changes -/
def noF (_ : Nat) : Prop := False
def is199 (i : Nat) : Prop := i = 199
section Bd
variable {F : Nat} {S T : St} {f : Nat → Int32} {L s : Nat}
end Bd
