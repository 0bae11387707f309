section Pc
variable {N M B : Nat → Int32} {X : Nat → Prop}
theorem dueP_c (h : EqX X N M) (hX : ∀ k, X k → k = 2 ∨ xD k ∨ xI k) (w : WB N B) {m u D : Nat} (hm : m < kN N 7) (hu : u < kN N 4) : dueP M m u D ↔ dueP N m u D := by
  have b3 := w.n3.2
  have b4 := w.n4.2
  have b7 := w.n7.2
  have nX : ∀ k, k < 4771 → ¬ k = 2 → ¬ X k := fun k h1 h2 z => by
    have := hX k z
    unfold xD xI at this
    omega
  have e : ∀ k, k < 4771 → ¬ k = 2 → ¬ k = 9 → M k = N k := fun k h1 h2 h9 => h k (by omega) h9 (nX k h1 h2)
  have ek : ∀ k, k < 4771 → ¬ k = 2 → ¬ k = 9 → kN M k = kN N k := fun k h1 h2 h9 => by unfold kN; rw [e k h1 h2 h9]
  obtain ⟨c1, -⟩ := clK_lt w hm hu
  have ck : clK M m u = clK N m u := ek _ (by omega) (by omega) (by omega)
  have e0 : stN M m u = stN N m u := e _ (by omega) (by omega) (by omega)
  have nw : newN M m u = newN N m u := by
    unfold newN
    rw [ek 7 (by omega) (by omega) (by omega)]
    refine cntP_c (fun m' hm' => ?_)
    have s1 : stN M m' u = stN N m' u := e _ (by omega) (by omega) (by omega)
    have s2 : clN M m' u = clN N m' u := e _ (by omega) (by omega) (by omega)
    have s3 : clN M m u = clN N m u := e _ (by omega) (by omega) (by omega)
    rw [s1, s2, s3]
  unfold dueP
  rw [e0, ck, nw, e (11 + 9 * clK N m u) (by omega) (by omega) (by omega), ek (12 + 9 * clK N m u) (by omega) (by omega) (by omega), ek (1173 + 3 * (10 * m + u)) (by omega) (by omega) (by omega), ek (11 + 9 * clK N m u) (by omega) (by omega) (by omega)]
theorem Pln.cong {S T : St} {p d d' : Nat} (P : Pln S p N d) (h : EqX X N M) (hX : ∀ k, X k → k = 2 ∨ xD k ∨ xI k) (w : WB N B) (hd : d ≤ d') (s : si T 713 p = si S 713 p) (a : ai T (p + 17) = ai S (p + 17)) : Pln T p M d' := by
  obtain ⟨w0, p1, p2, p3⟩ := P
  have nX : ∀ k, (k = 7 ∨ k = 4) → ¬ X k := fun k h1 z => by
    have := hX k z
    unfold xD xI at this
    omega
  refine ⟨w0, s.trans p1, p2, fun m u hm hu => ?_⟩
  rw [h.kn (by omega) (by omega) (nX _ (by omega))] at hm hu
  obtain ⟨v, q1, q2, q3, q4⟩ := p3 m u hm hu
  exact ⟨v, by rw [a]; exact q1, q2, q3, fun D h1 h2 => (q4 D (by omega) h2).trans (dueP_c h hX w hm hu).symm⟩
end Pc
