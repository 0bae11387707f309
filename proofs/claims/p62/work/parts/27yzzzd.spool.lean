/-! the spool's statement: both sides -/
def Rf (n r : Nat) (C0 C : St) : Prop := ∀ k, ¬ k = n → (∀ g, ¬ (k = r ∧ (g = 600 ∨ g = 601)) → si C g k = si C0 g k) ∧ (∀ g, sr C g k = sr C0 g k) ∧ ai C k = ai C0 k ∧ al C k = al C0 k ∧ ar C k = ar C0 k ∧ ln C k = ln C0 k
def ruZ (C0 : St) (r : Nat) : Prop := RuF C0 r ∧ si C0 401 (r + 1) = 0 ∧ si C0 401 (r + 6) = 0 ∧ si C0 401 (r + 10) = 0 ∧ si C0 401 (r + 13) = 0
section Sp
variable {F : Nat} {f D : Nat → Int32} {L n r s : Nat} {C0 M0 C M C' M' : St}
theorem Rf.pa (h : Rf n r C0 C) (p : PaF n C C') : Rf n r C0 C' := fun k hk => by
  obtain ⟨a1, a2, a3, a4, a5, a6⟩ := h k hk
  obtain ⟨b1, b2, b3, b4, b5, b6⟩ := p.1 k hk
  exact ⟨fun g hg => (b1 g).trans (a1 g hg), fun g => (b2 g).trans (a2 g), b3.trans a3, b4.trans a4, b5.trans a5, b6.trans a6⟩
theorem Rf.fr (h : Rf n r C0 C) (hn : n < r) : ∀ k, k < n → SameO C0 C k := fun k hk => ⟨fun g => (h k (by omega)).1 g (by omega), (h k (by omega)).2⟩
theorem si_wr (S : St) (g i : Nat) (v : Int32) : si (ui S g i v) g i = v := by rw [si_ui, if_pos ⟨rfl, rfl⟩]
end Sp
