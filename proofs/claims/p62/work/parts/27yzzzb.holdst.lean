/-! a hold's statement: both sides -/
def hoR (f D : Nat → Int32) (c t K : Nat) (w : Int64) : Prop := kN D 6 = c ∧ c < 6 ∧ (1 ≤ K ∧ K ≤ 6) ∧ (∀ k, k < K → letB (f (t + k))) ∧ (∀ x, x < 6 → D (220 + 21 * c + x) = if K ≤ x then 0 else f (t + x)) ∧ w = lN (wv (fun k => f (t + k)) K)
def hoA (D : Nat → Int32) (c u a b : Nat) (v4 : Int32) : Prop := D (205 + 21 * c) = nI u ∧ u < kN D 4 ∧ D (206 + 21 * c) = nI a ∧ a ≤ 9999 ∧ D (207 + 21 * c) = nI b ∧ b ≤ 20000 ∧ (v4 = nI b ∨ (v4 = 1000000000 ∧ nI b = 20000))
section Hs
variable {F : Nat} {f D : Nat → Int32} {L n r s : Nat} {C0 M0 C M C' M' : St}
theorem hoR.up {c t K i : Nat} {w : Int64} (h : hoR f D c t K w) (hi : 205 + 21 * c ≤ i ∧ i < 220 + 21 * c) (v : Int32) : hoR f (upd D i v) c t K w := ⟨by rw [d_k (by omega)]; exact h.1, h.2.1, h.2.2.1, h.2.2.2.1, fun x hx => by rw [upd_n (by omega)]; exact h.2.2.2.2.1 x hx, h.2.2.2.2.2⟩
theorem hoA.up {c u a b i : Nat} {v4 : Int32} (h : hoA D c u a b v4) (hi : 208 + 21 * c ≤ i) (v : Int32) : hoA (upd D i v) c u a b v4 := ⟨by rw [upd_n (by omega)]; exact h.1, by rw [d_k (by omega)]; exact h.2.1, by rw [upd_n (by omega)]; exact h.2.2.1, h.2.2.2.1, by rw [upd_n (by omega)]; exact h.2.2.2.2.1, h.2.2.2.2.2.1, h.2.2.2.2.2.2⟩
end Hs
