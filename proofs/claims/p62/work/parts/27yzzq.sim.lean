section Xe
variable {N M B : Nat → Int32} {X : Nat → Prop}
theorem xE_wC (h : EqX X N M) (hX : ∀ k, X k → (11 + 9 * kN N 3 ≤ k ∧ k < 83) ∨ (83 + 8 * kN N 4 ≤ k ∧ k < 163) ∨ (163 + 7 * kN N 5 ≤ k ∧ k < 205) ∨ (205 + 21 * kN N 6 ≤ k ∧ k < 331)) (b3 : kN N 3 ≤ 8) (b4 : kN N 4 ≤ 10) (b5 : kN N 5 ≤ 6) (b6 : kN N 6 ≤ 6) (g : wC N) : wC M := by
  intro c hc
  rw [h.kn (by omega) (by omega) (fun z => by have := hX _ z; omega)] at hc
  have q := g c hc
  rw [h (11 + 9 * c) (by omega) (by omega) (fun z => by have := hX _ z; omega), h (13 + 9 * c) (by omega) (by omega) (fun z => by have := hX _ z; omega), h.kn (k := 11 + 9 * c) (by omega) (by omega) (fun z => by have := hX _ z; omega), h.kn (k := 13 + 9 * c) (by omega) (by omega) (fun z => by have := hX _ z; omega)]
  exact ⟨q.1.imp id (fun y => ⟨h.cnt (by omega) (by omega) (fun z => by have := hX _ z; omega) y.1, y.2⟩), h.cnt (by omega) (by omega) (fun z => by have := hX _ z; omega) q.2.1, q.2.2.imp id (fun y => ⟨h.cnt (by omega) (by omega) (fun z => by have := hX _ z; omega) y.1, y.2⟩)⟩
theorem xE_wG (h : EqX X N M) (hX : ∀ k, X k → (11 + 9 * kN N 3 ≤ k ∧ k < 83) ∨ (83 + 8 * kN N 4 ≤ k ∧ k < 163) ∨ (163 + 7 * kN N 5 ≤ k ∧ k < 205) ∨ (205 + 21 * kN N 6 ≤ k ∧ k < 331)) (b3 : kN N 3 ≤ 8) (b4 : kN N 4 ≤ 10) (b5 : kN N 5 ≤ 6) (b6 : kN N 6 ≤ 6) (g : wG N) : wG M := by
  intro u hu
  rw [h.kn (by omega) (by omega) (fun z => by have := hX _ z; omega)] at hu
  have q := g u hu
  rw [h.kn (k := 163 + 7 * u) (by omega) (by omega) (fun z => by have := hX _ z; omega)]
  exact ⟨h.cnt (by omega) (by omega) (fun z => by have := hX _ z; omega) q.1, q.2⟩
theorem xE_wU (h : EqX X N M) (hX : ∀ k, X k → (11 + 9 * kN N 3 ≤ k ∧ k < 83) ∨ (83 + 8 * kN N 4 ≤ k ∧ k < 163) ∨ (163 + 7 * kN N 5 ≤ k ∧ k < 205) ∨ (205 + 21 * kN N 6 ≤ k ∧ k < 331)) (b3 : kN N 3 ≤ 8) (b4 : kN N 4 ≤ 10) (b5 : kN N 5 ≤ 6) (b6 : kN N 6 ≤ 6) (g : wU N) : wU M := by
  intro u hu
  rw [h.kn (by omega) (by omega) (fun z => by have := hX _ z; omega)] at hu
  have q := g u hu
  rw [h.kn (k := 83 + 8 * u) (by omega) (by omega) (fun z => by have := hX _ z; omega), h.kn (k := 84 + 8 * u) (by omega) (by omega) (fun z => by have := hX _ z; omega), h.kn (k := 3) (by omega) (by omega) (fun z => by have := hX _ z; omega)]
  exact ⟨h.cnt (by omega) (by omega) (fun z => by have := hX _ z; omega) q.1, q.2.1, h.cnt (by omega) (by omega) (fun z => by have := hX _ z; omega) q.2.2.1, q.2.2.2⟩
theorem xE_wH (h : EqX X N M) (hX : ∀ k, X k → (11 + 9 * kN N 3 ≤ k ∧ k < 83) ∨ (83 + 8 * kN N 4 ≤ k ∧ k < 163) ∨ (163 + 7 * kN N 5 ≤ k ∧ k < 205) ∨ (205 + 21 * kN N 6 ≤ k ∧ k < 331)) (b3 : kN N 3 ≤ 8) (b4 : kN N 4 ≤ 10) (b5 : kN N 5 ≤ 6) (b6 : kN N 6 ≤ 6) (g : wH N) : wH M := by
  intro x hx
  rw [h.kn (by omega) (by omega) (fun z => by have := hX _ z; omega)] at hx
  obtain ⟨q1, q2, q3, q4, q5, q6, q7⟩ := g x hx
  have b9 := q6.2
  rw [h.kn (k := 205 + 21 * x) (by omega) (by omega) (fun z => by have := hX _ z; omega), h.kn (k := 4) (by omega) (by omega) (fun z => by have := hX _ z; omega), h (208 + 21 * x) (by omega) (by omega) (fun z => by have := hX _ z; omega), h.kn (k := 209 + 21 * x) (by omega) (by omega) (fun z => by have := hX _ z; omega)]
  exact ⟨h.cnt (by omega) (by omega) (fun z => by have := hX _ z; omega) q1, q2, h.cnt (by omega) (by omega) (fun z => by have := hX _ z; omega) q3, h.cnt (by omega) (by omega) (fun z => by have := hX _ z; omega) q4, q5, h.cnt (by omega) (by omega) (fun z => by have := hX _ z; omega) q6, fun k hk => by rw [h (210 + 21 * x + k) (by omega) (by omega) (fun z => by have := hX _ z; omega)]; exact q7 k hk⟩
theorem xE_cr {S : St} {r : Nat} (h : EqX X N M) (hX : ∀ k, X k → (11 + 9 * kN N 3 ≤ k ∧ k < 83) ∨ (83 + 8 * kN N 4 ≤ k ∧ k < 163) ∨ (163 + 7 * kN N 5 ≤ k ∧ k < 205) ∨ (205 + 21 * kN N 6 ≤ k ∧ k < 331)) (b3 : kN N 3 ≤ 8) (b4 : kN N 4 ≤ 10) (b5 : kN N 5 ≤ 6) (b6 : kN N 6 ≤ 6) (wh : wH N) (g : CR S r N) : CR S r M := by
  obtain ⟨g1, g2, g3, g4, g5, g6⟩ := g
  refine ⟨g1, ?_, ?_, ?_, ?_, ?_⟩
  · rw [h 0 (by omega) (by omega) (fun z => by have := hX _ z; omega), h 1 (by omega) (by omega) (fun z => by have := hX _ z; omega), h 3 (by omega) (by omega) (fun z => by have := hX _ z; omega), h 4 (by omega) (by omega) (fun z => by have := hX _ z; omega), h 5 (by omega) (by omega) (fun z => by have := hX _ z; omega), h 6 (by omega) (by omega) (fun z => by have := hX _ z; omega)]
    exact g2
  · intro c hc
    rw [h.kn (by omega) (by omega) (fun z => by have := hX _ z; omega)] at hc
    obtain ⟨p1, p2, p3, k, p4, p5, p6, p7⟩ := g3 c hc
    rw [h (11 + 9 * c) (by omega) (by omega) (fun z => by have := hX _ z; omega), h (12 + 9 * c) (by omega) (by omega) (fun z => by have := hX _ z; omega), h (13 + 9 * c) (by omega) (by omega) (fun z => by have := hX _ z; omega)]
    exact ⟨p1, p2, p3, k, p4, (h.name (by omega) (by omega) (fun j hj z => by have := hX _ z; omega)).mpr p5, fun i i1 i2 => by rw [h (14 + 9 * c + i) (by omega) (by omega) (fun z => by have := hX _ z; omega)]; exact p6 i i1 i2, by rw [h.wd (by omega) (by omega) (fun j hj z => by have := hX _ z; omega)]; exact p7⟩
  · intro c hc
    rw [h.kn (by omega) (by omega) (fun z => by have := hX _ z; omega)] at hc
    obtain ⟨p1, k, p4, p5, p6, p7⟩ := g4 c hc
    rw [h (83 + 8 * c) (by omega) (by omega) (fun z => by have := hX _ z; omega)]
    exact ⟨p1, k, p4, (h.name (by omega) (by omega) (fun j hj z => by have := hX _ z; omega)).mpr p5, fun i i1 i2 => by rw [h (85 + 8 * c + i) (by omega) (by omega) (fun z => by have := hX _ z; omega)]; exact p6 i i1 i2, by rw [h.wd (by omega) (by omega) (fun j hj z => by have := hX _ z; omega)]; exact p7⟩
  · intro c hc
    rw [h.kn (by omega) (by omega) (fun z => by have := hX _ z; omega)] at hc
    obtain ⟨p1, k, p4, p5, p6, p7⟩ := g5 c hc
    rw [h (163 + 7 * c) (by omega) (by omega) (fun z => by have := hX _ z; omega)]
    exact ⟨p1, k, p4, (h.name (by omega) (by omega) (fun j hj z => by have := hX _ z; omega)).mpr p5, fun i i1 i2 => by rw [h (164 + 7 * c + i) (by omega) (by omega) (fun z => by have := hX _ z; omega)]; exact p6 i i1 i2, by rw [h.wd (by omega) (by omega) (fun j hj z => by have := hX _ z; omega)]; exact p7⟩
  · intro c hc
    rw [h.kn (by omega) (by omega) (fun z => by have := hX _ z; omega)] at hc
    have b9 := (wh c hc).2.2.2.2.2.1.2
    obtain ⟨p1, p2, p3, p8, k, p4, p5, p6, p7⟩ := g6 c hc
    rw [h (205 + 21 * c) (by omega) (by omega) (fun z => by have := hX _ z; omega), h (206 + 21 * c) (by omega) (by omega) (fun z => by have := hX _ z; omega), h (207 + 21 * c) (by omega) (by omega) (fun z => by have := hX _ z; omega), h.kn (k := 209 + 21 * c) (by omega) (by omega) (fun z => by have := hX _ z; omega)]
    exact ⟨p1, p2, p3, by rw [h.wd (by omega) (by omega) (fun j hj z => by have := hX _ z; omega)]; exact p8, k, p4, (h.name (by omega) (by omega) (fun j hj z => by have := hX _ z; omega)).mpr p5, fun i i1 i2 => by rw [h (220 + 21 * c + i) (by omega) (by omega) (fun z => by have := hX _ z; omega)]; exact p6 i i1 i2, by rw [h.wd (by omega) (by omega) (fun j hj z => by have := hX _ z; omega)]; exact p7⟩
end Xe
section Si
variable {f : Nat → Int32} {L n r s : Nat} {C M : St}
end Si
