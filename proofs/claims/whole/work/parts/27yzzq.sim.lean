/-! rows of a draft beyond its counts -/
section Xe
variable {N M B : Nat → Int32} {X : Nat → Prop}
theorem xE_wC (h : EqX X N M) (hX : ∀ k, X k → (11 + 9 * kN N 3 ≤ k ∧ k < 83) ∨ (83 + 8 * kN N 4 ≤ k ∧ k < 163) ∨ (163 + 7 * kN N 5 ≤ k ∧ k < 205) ∨ (205 + 21 * kN N 6 ≤ k ∧ k < 331)) (b3 : kN N 3 ≤ 8) (b4 : kN N 4 ≤ 10) (b5 : kN N 5 ≤ 6) (b6 : kN N 6 ≤ 6) (g : wC N) : wC M := by
  intro c hc
  rw [h.kn (by omega) (by omega) (fun z => by have := hX _ z; omega)] at hc
  have q := g c hc
  rw [h (11 + 9 * c) (by omega) (by omega) (fun z => by have := hX _ z; omega), h (13 + 9 * c) (by omega) (by omega) (fun z => by have := hX _ z; omega), h.kn (k := 11 + 9 * c) (by omega) (by omega) (fun z => by have := hX _ z; omega), h.kn (k := 13 + 9 * c) (by omega) (by omega) (fun z => by have := hX _ z; omega)]
  exact ⟨q.1.imp id (fun y => ⟨h.cnt (by omega) (by omega) (fun z => by have := hX _ z; omega) y.1, y.2⟩), h.cnt (by omega) (by omega) (fun z => by have := hX _ z; omega) q.2.1, q.2.2.imp id (fun y => ⟨h.cnt (by omega) (by omega) (fun z => by have := hX _ z; omega) y.1, y.2⟩)⟩
theorem xE_wG (h : EqX X N M) (hX : ∀ k, X k → (11 + 9 * kN N 3 ≤ k ∧ k < 83) ∨ (83 + 8 * kN N 4 ≤ k ∧ k < 163) ∨ (163 + 7 * kN N 5 ≤ k ∧ k < 205) ∨ (205 + 21 * kN N 6 ≤ k ∧ k < 331)) (b3 : kN N 3 ≤ 8) (b4 : kN N 4 ≤ 10) (b5 : kN N 5 ≤ 6) (b6 : kN N 6 ≤ 6) (g : wG N) : wG M := by
  intro u hu
  rw [h.kn (by omega) (by omega) (fun z => by have := hX _ z; omega)] at hu
  have q := g u hu
  rw [h.kn (k := 163 + 7 * u) (by omega) (by omega) (fun z => by have := hX _ z; omega)]
  exact ⟨h.cnt (by omega) (by omega) (fun z => by have := hX _ z; omega) q.1, q.2⟩
theorem xE_wU (h : EqX X N M) (hX : ∀ k, X k → (11 + 9 * kN N 3 ≤ k ∧ k < 83) ∨ (83 + 8 * kN N 4 ≤ k ∧ k < 163) ∨ (163 + 7 * kN N 5 ≤ k ∧ k < 205) ∨ (205 + 21 * kN N 6 ≤ k ∧ k < 331)) (b3 : kN N 3 ≤ 8) (b4 : kN N 4 ≤ 10) (b5 : kN N 5 ≤ 6) (b6 : kN N 6 ≤ 6) (g : wU N) : wU M := by
  intro u hu
  rw [h.kn (by omega) (by omega) (fun z => by have := hX _ z; omega)] at hu
  have q := g u hu
  rw [h.kn (k := 83 + 8 * u) (by omega) (by omega) (fun z => by have := hX _ z; omega), h.kn (k := 84 + 8 * u) (by omega) (by omega) (fun z => by have := hX _ z; omega), h.kn (k := 3) (by omega) (by omega) (fun z => by have := hX _ z; omega)]
  exact ⟨h.cnt (by omega) (by omega) (fun z => by have := hX _ z; omega) q.1, q.2.1, h.cnt (by omega) (by omega) (fun z => by have := hX _ z; omega) q.2.2.1, q.2.2.2⟩
theorem xE_wH (h : EqX X N M) (hX : ∀ k, X k → (11 + 9 * kN N 3 ≤ k ∧ k < 83) ∨ (83 + 8 * kN N 4 ≤ k ∧ k < 163) ∨ (163 + 7 * kN N 5 ≤ k ∧ k < 205) ∨ (205 + 21 * kN N 6 ≤ k ∧ k < 331)) (b3 : kN N 3 ≤ 8) (b4 : kN N 4 ≤ 10) (b5 : kN N 5 ≤ 6) (b6 : kN N 6 ≤ 6) (g : wH N) : wH M := by
  intro x hx
  rw [h.kn (by omega) (by omega) (fun z => by have := hX _ z; omega)] at hx
  obtain ⟨q1, q2, q3, q4, q5, q6, q7⟩ := g x hx
  have b9 := q6.2
  rw [h.kn (k := 205 + 21 * x) (by omega) (by omega) (fun z => by have := hX _ z; omega), h.kn (k := 4) (by omega) (by omega) (fun z => by have := hX _ z; omega), h (208 + 21 * x) (by omega) (by omega) (fun z => by have := hX _ z; omega), h.kn (k := 209 + 21 * x) (by omega) (by omega) (fun z => by have := hX _ z; omega)]
  exact ⟨h.cnt (by omega) (by omega) (fun z => by have := hX _ z; omega) q1, q2, h.cnt (by omega) (by omega) (fun z => by have := hX _ z; omega) q3, h.cnt (by omega) (by omega) (fun z => by have := hX _ z; omega) q4, q5, h.cnt (by omega) (by omega) (fun z => by have := hX _ z; omega) q6, fun k hk => by rw [h (210 + 21 * x + k) (by omega) (by omega) (fun z => by have := hX _ z; omega)]; exact q7 k hk⟩
theorem xE_cr {S : St} {r : Nat} (h : EqX X N M) (hX : ∀ k, X k → (11 + 9 * kN N 3 ≤ k ∧ k < 83) ∨ (83 + 8 * kN N 4 ≤ k ∧ k < 163) ∨ (163 + 7 * kN N 5 ≤ k ∧ k < 205) ∨ (205 + 21 * kN N 6 ≤ k ∧ k < 331)) (b3 : kN N 3 ≤ 8) (b4 : kN N 4 ≤ 10) (b5 : kN N 5 ≤ 6) (b6 : kN N 6 ≤ 6) (wh : wH N) (g : CR S r N) : CR S r M := by
  obtain ⟨g1, g2, g3, g4, g5, g6⟩ := g
  refine ⟨g1, ?_, ?_, ?_, ?_, ?_⟩
  · rw [h 0 (by omega) (by omega) (fun z => by have := hX _ z; omega), h 1 (by omega) (by omega) (fun z => by have := hX _ z; omega), h 3 (by omega) (by omega) (fun z => by have := hX _ z; omega), h 4 (by omega) (by omega) (fun z => by have := hX _ z; omega), h 5 (by omega) (by omega) (fun z => by have := hX _ z; omega), h 6 (by omega) (by omega) (fun z => by have := hX _ z; omega)]
    exact g2
  · intro c hc
    rw [h.kn (by omega) (by omega) (fun z => by have := hX _ z; omega)] at hc
    obtain ⟨p1, p2, p3, k, p4, p5, p6, p7⟩ := g3 c hc
    rw [h (11 + 9 * c) (by omega) (by omega) (fun z => by have := hX _ z; omega), h (12 + 9 * c) (by omega) (by omega) (fun z => by have := hX _ z; omega), h (13 + 9 * c) (by omega) (by omega) (fun z => by have := hX _ z; omega)]
    exact ⟨p1, p2, p3, k, p4, (h.name (by omega) (by omega) (fun j hj z => by have := hX _ z; omega)).mpr p5, fun i i1 i2 => by rw [h (14 + 9 * c + i) (by omega) (by omega) (fun z => by have := hX _ z; omega)]; exact p6 i i1 i2, by rw [h.wd (by omega) (by omega) (fun j hj z => by have := hX _ z; omega)]; exact p7⟩
  · intro c hc
    rw [h.kn (by omega) (by omega) (fun z => by have := hX _ z; omega)] at hc
    obtain ⟨p1, k, p4, p5, p6, p7⟩ := g4 c hc
    rw [h (83 + 8 * c) (by omega) (by omega) (fun z => by have := hX _ z; omega)]
    exact ⟨p1, k, p4, (h.name (by omega) (by omega) (fun j hj z => by have := hX _ z; omega)).mpr p5, fun i i1 i2 => by rw [h (85 + 8 * c + i) (by omega) (by omega) (fun z => by have := hX _ z; omega)]; exact p6 i i1 i2, by rw [h.wd (by omega) (by omega) (fun j hj z => by have := hX _ z; omega)]; exact p7⟩
  · intro c hc
    rw [h.kn (by omega) (by omega) (fun z => by have := hX _ z; omega)] at hc
    obtain ⟨p1, k, p4, p5, p6, p7⟩ := g5 c hc
    rw [h (163 + 7 * c) (by omega) (by omega) (fun z => by have := hX _ z; omega)]
    exact ⟨p1, k, p4, (h.name (by omega) (by omega) (fun j hj z => by have := hX _ z; omega)).mpr p5, fun i i1 i2 => by rw [h (164 + 7 * c + i) (by omega) (by omega) (fun z => by have := hX _ z; omega)]; exact p6 i i1 i2, by rw [h.wd (by omega) (by omega) (fun j hj z => by have := hX _ z; omega)]; exact p7⟩
  · intro c hc
    rw [h.kn (by omega) (by omega) (fun z => by have := hX _ z; omega)] at hc
    have b9 := (wh c hc).2.2.2.2.2.1.2
    obtain ⟨p1, p2, p3, p8, k, p4, p5, p6, p7⟩ := g6 c hc
    rw [h (205 + 21 * c) (by omega) (by omega) (fun z => by have := hX _ z; omega), h (206 + 21 * c) (by omega) (by omega) (fun z => by have := hX _ z; omega), h (207 + 21 * c) (by omega) (by omega) (fun z => by have := hX _ z; omega), h.kn (k := 209 + 21 * c) (by omega) (by omega) (fun z => by have := hX _ z; omega)]
    exact ⟨p1, p2, p3, by rw [h.wd (by omega) (by omega) (fun j hj z => by have := hX _ z; omega)]; exact p8, k, p4, (h.name (by omega) (by omega) (fun j hj z => by have := hX _ z; omega)).mpr p5, fun i i1 i2 => by rw [h (220 + 21 * c + i) (by omega) (by omega) (fun z => by have := hX _ z; omega)]; exact p6 i i1 i2, by rw [h.wd (by omega) (by omega) (fun j hj z => by have := hX _ z; omega)]; exact p7⟩
end Xe
/-- class and model have read the same so far -/
def Sim (f : Nat → Int32) (L n r : Nat) (C M : St) (s : Nat) : Prop :=
  FxF C ∧ Inp C f L ∧ 212 ≤ n ∧ n < r ∧ sr C 500 n = some 20 ∧ sr C 501 n = some r ∧ TokC f L C n s ∧ CR C r (ai M 199) ∧ cnD (ai M 199) ∧ (wC (ai M 199) ∧ wU (ai M 199) ∧ wG (ai M 199) ∧ wH (ai M 199) ∧ ∀ u, u < kN (ai M 199) 4 → ai C (r + 9) u = ai M 199 (84 + 8 * u)) ∧ GdM f L s M
section Si
variable {f : Nat → Int32} {L n r s : Nat} {C M : St}
theorem Sim.nx (h : Sim f L n r C M s) {C' M' : St} (p : PaF n C C') (t : TokC f L C' n (nxK f L s)) (m : Mf scM noA M M') (g : GdM f L (nxK f L s) M') : Sim f L n r C' M' (nxK f L s) := by
  obtain ⟨h1, h2, h3, h4, h5, h6, h7, h8, h9, h10, h11⟩ := h
  have e : ai M' 199 = ai M 199 := m.2.2.1 199 (fun z => z)
  unfold Sim
  rw [e]
  exact ⟨p.fx h3 h1, p.inp h3 h2, h3, h4, (p.2.1 500 (by omega)).trans h5, (p.2.1 501 (by omega)).trans h6, t, h8.agr (fun i a b => p.1 i (by omega)), h9, ⟨h10.1, h10.2.1, h10.2.2.1, h10.2.2.2.1, by rw [p.2.2.2.1]; exact h10.2.2.2.2⟩, g⟩
/-- the draft has new rows beyond its counts -/
theorem Sim.dr (h : Sim f L n r C M s) {M' : St} (X : Nat → Prop) (hX : ∀ k, X k → (11 + 9 * kN (ai M 199) 3 ≤ k ∧ k < 83) ∨ (83 + 8 * kN (ai M 199) 4 ≤ k ∧ k < 163) ∨ (163 + 7 * kN (ai M 199) 5 ≤ k ∧ k < 205) ∨ (205 + 21 * kN (ai M 199) 6 ≤ k ∧ k < 331)) (e : ∀ k, ¬ X k → ai M' 199 k = ai M 199 k) {s' : Nat} (t : TokC f L C n s') (g : GdM f L s' M') : Sim f L n r C M' s' := by
  obtain ⟨h1, h2, h3, h4, h5, h6, h7, h8, ⟨c3, c4, c5, c6⟩, ⟨w1, w2, w3, w4, w5⟩, h11⟩ := h
  have E : EqX X (ai M 199) (ai M' 199) := fun k _ _ c => e k c
  have b3 := c3.2
  have b4 := c4.2
  have b5 := c5.2
  have b6 := c6.2
  have cn : ∀ k b, k < 11 → isCnt (ai M 199) k b → isCnt (ai M' 199) k b := fun k b a y => by
    have : ai M' 199 k = ai M 199 k := e k (fun z => by have := hX k z; omega)
    unfold isCnt kN at y ⊢
    rw [this]; exact y
  refine ⟨h1, h2, h3, h4, h5, h6, t, xE_cr E hX b3 b4 b5 b6 w4 h8, ⟨cn _ _ (by omega) c3, cn _ _ (by omega) c4, cn _ _ (by omega) c5, cn _ _ (by omega) c6⟩, ⟨xE_wC E hX b3 b4 b5 b6 w1, xE_wU E hX b3 b4 b5 b6 w2, xE_wG E hX b3 b4 b5 b6 w3, xE_wH E hX b3 b4 b5 b6 w4, fun u hu => ?_⟩, g⟩
  have k4 : kN (ai M' 199) 4 = kN (ai M 199) 4 := by unfold kN; rw [e 4 (fun z => by have := hX 4 z; omega)]
  rw [k4] at hu
  rw [e _ (fun z => by have := hX _ z; omega)]
  exact w5 u hu
end Si
