/-! the two sides of the relation, each by itself -/
/-- the class's: its history, its spool -/
def RC (S : St) (n h f : Nat) (Ns Bs : Nat → Nat → Int32) (N B : Nat → Int32) : Prop := 197 ≤ n ∧ FxF S ∧ HC S n h f Ns Bs ∧ Cl S n 27 N B
/-- what the class's calls write -/
def CFr (n : Nat) (S T : St) : Prop := (∀ i, i < n → ¬ i = 0 → ¬ (24 ≤ i ∧ i ≤ 68) → ¬ (70 ≤ i ∧ i ≤ 196) → ¬ i = 210 → ¬ i = 211 → SameO S T i) ∧ (∀ f, ¬ f = 908 → ¬ f = 909 → si T f 0 = si S f 0)
theorem CFr.rf (n : Nat) (S : St) : CFr n S S := ⟨fun i _ _ _ _ _ _ => SameO.rf S i, fun _ _ _ => rfl⟩
theorem CFr.tr {n n' : Nat} {S T U : St} (h : CFr n S T) (g : CFr n' T U) (hn : n ≤ n') : CFr n S U := ⟨fun i a b c d e f => (h.1 i a b c d e f).tr (g.1 i (by omega) b c d e f), fun f a b => (g.2 f a b).trans (h.2 f a b)⟩
theorem HC.agr {S T : St} {n n' h f : Nat} {Ns Bs : Nat → Nat → Int32} (c : HC S n h f Ns Bs) (hn : n ≤ n') (e : ∀ i, (70 ≤ i ∧ i ≤ 195) ∨ (1 ≤ i ∧ i ≤ 19) ∨ (197 ≤ i ∧ i < n) → SameO S T i) (s1 : si T 909 0 = si S 909 0) (s2 : si T 908 0 = si S 908 0) : HC T n' h f Ns Bs := by
  obtain ⟨c1, c2, c3, c4, c5⟩ := c
  refine ⟨c1, c2, s1.trans c3, s2.trans c4, fun i hi => ?_⟩
  have := Nat.mod_lt (f + i) (show 0 < 6 by omega)
  exact (c5 i hi).agr hn (fun k hk => e k (by omega))
/-- the class's -/
theorem RC.rem {F : Nat} {S : St} {n h f : Nat} {Ns Bs : Nat → Nat → Int32} {N B : Nat → Int32} (c : RC S n h f Ns Bs N B) (hF : 1000 ≤ F) : ∃ T, f_X10_remember F S 0 = some T ∧ RC T n (hN h) (fN h f) (setF Ns (tN h f) N) (setF Bs (tN h f) B) N B ∧ CFr n S T ∧ (∀ i, 27 ≤ i → i ≤ 47 → SameO S T i) ∧ SameO S T 20 ∧ SameO S T 210 ∧ SameO S T 211 := by
  obtain ⟨c1, c2, c3, c4⟩ := c
  obtain ⟨T, t1, t2, t3, t4, t5, t6, t7, t8, t9⟩ := e_remember c2 c3 c4 hF
  have tl := tN_lt h f
  have hx : FxF T := c2.agr (fun f' i hf _ => t5 f' i (fun z => hf z.1)) (fun i _ => by rw [t9]) (t3 69 (by omega) (by omega)).2.2.2.2.1
  exact ⟨T, t1, ⟨c1, hx, t2, c4.agr (Nat.le_refl _) (fun i hi => t3 i (by omega) (by omega))⟩, ⟨fun i a b c d e g => t3 i b (by omega), fun g a b => t4 g a b⟩, fun i a b => t3 i (by omega) (by omega), t3 20 (by omega) (by omega), t3 210 (by omega) (by omega), t3 211 (by omega) (by omega)⟩
theorem CFr.out (n : Nat) (S : St) (k : Nat) (v : Int64) : CFr n S (ual S 210 k v) := ⟨fun i _ _ _ _ h _ => SameO.ual v h, fun _ _ _ => rfl⟩
