/-- a call of the law: it doesn't stop, class and model answer alike, and hold the same afterwards -/
def Ok (f : Option (St × Nat)) : Prop := ∃ S' n', f = some (S', n') ∧ Rel S' n'
