/-! setQuota -/
theorem CJ.x {S : St} {p : Nat} {N M : Nat → Int32} (e9 : M 9 = N 9) (eJ : ∀ k, 6211 ≤ k → k < 6391 → M k = N k) (h9 : kN N 9 ≤ 60) (g : CJ S p N) : CJ S p M := by
  have k9 : kN M 9 = kN N 9 := by unfold kN; rw [e9]
  obtain ⟨g1, f, g2, g3, g4⟩ := g
  refine ⟨by rw [e9]; exact g1, f, g2, g3, fun k hk => ?_⟩
  rw [k9] at hk
  rw [eJ (6211 + 3 * k) (by omega) (by omega), eJ (6212 + 3 * k) (by omega) (by omega), eJ (6213 + 3 * k) (by omega) (by omega)]
  exact g4 k hk
theorem upd_e (N : Nat → Int32) (i : Nat) (v : Int32) : upd N i v i = v := by unfold upd; rw [if_pos rfl]
theorem upd_n {N : Nat → Int32} {i k : Nat} {v : Int32} (h : ¬ k = i) : upd N i v k = N k := by unfold upd; rw [if_neg h]
theorem isCnt_nI {N : Nat → Int32} {i v b : Nat} (e : N i = nI v) (h : v ≤ b) (hb : b < 2 ^ 31) : isCnt N i b ∧ kN N i = v := by
  have k : kN N i = v := by unfold kN; rw [e, nI_clamp (by omega)]
  exact ⟨⟨by rw [k]; exact e, by rw [k]; exact h⟩, k⟩
section Qu
variable {N B : Nat → Int32} {S : St} {n p : Nat}
end Qu
section A
variable {F : Nat} {xs : Nat → Int32} {L : Nat} {S : St} {n : Nat} {i : Int32}
theorem SameO.row {S T : St} {i : Nat} (h : SameO S T i) : ai T i = ai S i := h.2.2.1
end A
