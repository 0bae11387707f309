/-! one reference changes and stays kept -/
/-- the spool with a reference's state, class and day of entry changed -/
def updR (N : Nat → Int32) (m u : Nat) (s c e : Int32) : Nat → Int32 := upd (upd (upd N (1171 + 3 * (10 * m + u)) s) (1172 + 3 * (10 * m + u)) c) (1173 + 3 * (10 * m + u)) e
theorem updR_n {N : Nat → Int32} {m u k : Nat} {s c e : Int32} (h : ¬ k = 1171 + 3 * (10 * m + u)) (h1 : ¬ k = 1172 + 3 * (10 * m + u)) (h2 : ¬ k = 1173 + 3 * (10 * m + u)) : updR N m u s c e k = N k := by
  unfold updR
  rw [upd_n h2, upd_n h1, upd_n h]
section Rf
variable {N B : Nat → Int32} {S S' : St} {n p : Nat}
end Rf
