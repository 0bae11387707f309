/-! a change at some places X leaves what rests on others (laid from 27a) -/
def EqX (X : Nat → Prop) (N M : Nat → Int32) : Prop := ∀ k, k < 6211 → ¬ k = 9 → ¬ X k → M k = N k
section Xg
variable {N M B C : Nat → Int32} {X : Nat → Prop}
theorem EqX.kn (h : EqX X N M) {k : Nat} (a : k < 6211) (b : ¬ k = 9) (c : ¬ X k) : kN M k = kN N k := by unfold kN; rw [h k a b c]
theorem EqX.cnt (h : EqX X N M) {k b : Nat} (a : k < 6211) (c : ¬ k = 9) (d : ¬ X k) (g : isCnt N k b) : isCnt M k b := by
  unfold isCnt
  rw [h.kn a c d, h k a c d]
  exact g
theorem EqX.st (h : EqX X N M) (hX : ∀ k, X k → (k < 1171 ∨ 4771 ≤ k)) {m u : Nat} (hm : m < 120) (hu : u < 10) : stN M m u = stN N m u := h _ (by omega) (by omega) (fun z => by have := hX _ z; omega)
theorem EqX.cl (h : EqX X N M) (hX : ∀ k, X k → (k < 1171 ∨ 4771 ≤ k)) {m u : Nat} (hm : m < 120) (hu : u < 10) : clN M m u = clN N m u := h _ (by omega) (by omega) (fun z => by have := hX _ z; omega)
theorem EqX.en (h : EqX X N M) (hX : ∀ k, X k → (k < 1171 ∨ 4771 ≤ k)) {m u : Nat} (hm : m < 120) (hu : u < 10) : enN M m u = enN N m u := h _ (by omega) (by omega) (fun z => by have := hX _ z; omega)
theorem EqX.le (h : EqX X N M) (hX : ∀ k, X k → (k < 4771 ∨ ¬ k % 3 = 1)) {q : Nat} (hq : q < 480) : lenN M q = lenN N q := h _ (by omega) (by omega) (fun z => by have := hX _ z; omega)
theorem EqX.is (h : EqX X N M) (hX : ∀ k, X k → (k < 4771 ∨ ¬ k % 3 = 2)) {q : Nat} (hq : q < 480) : isN M q = isN N q := h _ (by omega) (by omega) (fun z => by have := hX _ z; omega)
theorem EqX.de (h : EqX X N M) (hX : ∀ k, X k → (k < 4771 ∨ ¬ k % 3 = 0)) {q : Nat} (hq : q < 480) : deN M q = deN N q := h _ (by omega) (by omega) (fun z => by have := hX _ z; omega)
theorem EqX.many (h : EqX X N M) (hX : ∀ k, X k → (k < 331 ∨ 1171 ≤ k)) {m : Nat} (hm : m < 120) : manyN M m = manyN N m := h.kn (by omega) (by omega) (fun z => by have := hX _ z; omega)
theorem EqX.part (h : EqX X N M) (hX : ∀ k, X k → (k < 331 ∨ 1171 ≤ k)) {m i : Nat} (hm : m < 120) (hi : i < 4) : partN M m i = partN N m i := h.kn (by omega) (by omega) (fun z => by have := hX _ z; omega)
theorem EqX.has (h : EqX X N M) (hX : ∀ k, X k → (k < 331 ∨ 1171 ≤ k)) {m q : Nat} (hm : m < 120) (h4 : manyN N m ≤ 4) : hasN M m q ↔ hasN N m q := by
  unfold hasN
  rw [h.many (fun k z => by have := hX k z; omega) hm]
  exact ⟨fun ⟨i, a, b⟩ => ⟨i, a, by rw [← h.part (fun k z => by have := hX k z; omega) hm (by omega)]; exact b⟩, fun ⟨i, a, b⟩ => ⟨i, a, by rw [h.part (fun k z => by have := hX k z; omega) hm (by omega)]; exact b⟩⟩
theorem EqX.kept (h : EqX X N M) (hX : ∀ k, X k → (11 ≤ k ∨ k = 2) ∧ (k < 1171 ∨ 4771 ≤ k)) {m : Nat} (hm : m < 120) (h4 : kN N 4 ≤ 10) : keptN M m ↔ keptN N m := by
  unfold keptN
  rw [h.kn (by omega) (by omega) (fun z => by have := hX _ z; omega)]
  exact ⟨fun ⟨u, a, b⟩ => ⟨u, a, by rw [← h.st (fun k z => by have := hX k z; omega) hm (by omega)]; exact b⟩, fun ⟨u, a, b⟩ => ⟨u, a, by rw [h.st (fun k z => by have := hX k z; omega) hm (by omega)]; exact b⟩⟩
theorem EqX.wC (h : EqX X N M) (hX : ∀ k, X k → 11 ≤ k ∧ 83 ≤ k) (b3 : kN N 3 ≤ 8) (g : wC N) : wC M := by
  intro c hc
  rw [h.kn (by omega) (by omega) (fun z => by have := hX _ z; omega)] at hc
  have q := g c hc
  rw [h (11 + 9 * c) (by omega) (by omega) (fun z => by have := hX _ z; omega), h (13 + 9 * c) (by omega) (by omega) (fun z => by have := hX _ z; omega), h.kn (k := 11 + 9 * c) (by omega) (by omega) (fun z => by have := hX _ z; omega), h.kn (k := 13 + 9 * c) (by omega) (by omega) (fun z => by have := hX _ z; omega)]
  exact ⟨q.1.imp id (fun y => ⟨h.cnt (by omega) (by omega) (fun z => by have := hX _ z; omega) y.1, y.2⟩), h.cnt (by omega) (by omega) (fun z => by have := hX _ z; omega) q.2.1, q.2.2.imp id (fun y => ⟨h.cnt (by omega) (by omega) (fun z => by have := hX _ z; omega) y.1, y.2⟩)⟩
theorem EqX.wG (h : EqX X N M) (hX : ∀ k, X k → 11 ≤ k ∧ (k < 163 ∨ 205 ≤ k)) (b5 : kN N 5 ≤ 6) (g : wG N) : wG M := by
  intro u hu
  rw [h.kn (by omega) (by omega) (fun z => by have := hX _ z; omega)] at hu
  have q := g u hu
  rw [h.kn (k := 163 + 7 * u) (by omega) (by omega) (fun z => by have := hX _ z; omega)]
  exact ⟨h.cnt (by omega) (by omega) (fun z => by have := hX _ z; omega) q.1, q.2⟩
theorem EqX.wU (h : EqX X N M) (hX : ∀ k, X k → 11 ≤ k ∧ (k < 83 ∨ 163 ≤ k)) (b4 : kN N 4 ≤ 10) (g : wU N) : wU M := by
  intro u hu
  rw [h.kn (by omega) (by omega) (fun z => by have := hX _ z; omega)] at hu
  have q := g u hu
  rw [h.kn (k := 83 + 8 * u) (by omega) (by omega) (fun z => by have := hX _ z; omega), h.kn (k := 84 + 8 * u) (by omega) (by omega) (fun z => by have := hX _ z; omega), h.kn (k := 3) (by omega) (by omega) (fun z => by have := hX _ z; omega)]
  exact ⟨h.cnt (by omega) (by omega) (fun z => by have := hX _ z; omega) q.1, q.2.1, h.cnt (by omega) (by omega) (fun z => by have := hX _ z; omega) q.2.2.1, q.2.2.2⟩
theorem EqX.wH (h : EqX X N M) (hX : ∀ k, X k → 11 ≤ k ∧ (k < 205 ∨ 331 ≤ k)) (b6 : kN N 6 ≤ 6) (g : wH N) : wH M := by
  intro x hx
  rw [h.kn (by omega) (by omega) (fun z => by have := hX _ z; omega)] at hx
  obtain ⟨q1, q2, q3, q4, q5, q6, q7⟩ := g x hx
  have b9 := q6.2
  rw [h.kn (k := 205 + 21 * x) (by omega) (by omega) (fun z => by have := hX _ z; omega), h.kn (k := 4) (by omega) (by omega) (fun z => by have := hX _ z; omega), h (208 + 21 * x) (by omega) (by omega) (fun z => by have := hX _ z; omega), h.kn (k := 209 + 21 * x) (by omega) (by omega) (fun z => by have := hX _ z; omega)]
  exact ⟨h.cnt (by omega) (by omega) (fun z => by have := hX _ z; omega) q1, q2, h.cnt (by omega) (by omega) (fun z => by have := hX _ z; omega) q3, h.cnt (by omega) (by omega) (fun z => by have := hX _ z; omega) q4, q5, h.cnt (by omega) (by omega) (fun z => by have := hX _ z; omega) q6, fun k hk => by rw [h (210 + 21 * x + k) (by omega) (by omega) (fun z => by have := hX _ z; omega)]; exact q7 k hk⟩
theorem EqX.wM (h : EqX X N M) (hX : ∀ k, X k → 11 ≤ k ∧ (k < 331 ∨ 1171 ≤ k)) (b7 : kN N 7 ≤ 120) (g : wM N) : wM M := by
  intro m hm
  rw [h.kn (by omega) (by omega) (fun z => by have := hX _ z; omega)] at hm
  obtain ⟨q1, q2, q3, q4, q5, q6⟩ := g m hm
  have b4 : manyN N m ≤ 4 := q4.2
  rw [h.kn (k := 332 + 7 * m) (by omega) (by omega) (fun z => by have := hX _ z; omega), h.kn (k := 2) (by omega) (by omega) (fun z => by have := hX _ z; omega), h.many (fun k z => by have := hX k z; omega) (by omega)]
  refine ⟨h.cnt (by omega) (by omega) (fun z => by have := hX _ z; omega) q1, h.cnt (by omega) (by omega) (fun z => by have := hX _ z; omega) q2, q3, h.cnt (by omega) (by omega) (fun z => by have := hX _ z; omega) q4, q5, fun i hi => ?_⟩
  rw [h.part (fun k z => by have := hX k z; omega) (by omega) (by omega), h.kn (k := 8) (by omega) (by omega) (fun z => by have := hX _ z; omega)]
  exact ⟨h.cnt (by omega) (by omega) (fun z => by have := hX _ z; omega) (q6 i hi).1, (q6 i hi).2⟩
theorem EqX.wR (h : EqX X N M) (hX : ∀ k, X k → 11 ≤ k ∧ (k < 1171 ∨ 4771 ≤ k)) (b7 : kN N 7 ≤ 120) (g : wR N) : wR M := by
  intro m u hm hu
  rw [h.kn (by omega) (by omega) (fun z => by have := hX _ z; omega)] at hm
  obtain ⟨q1, q2, q3, q4, q5⟩ := g m u hm hu
  rw [h.st (fun k z => by have := hX k z; omega) (by omega) hu, h.kn (k := 4) (by omega) (by omega) (fun z => by have := hX _ z; omega), h.kn (k := 1173 + 3 * (10 * m + u)) (by omega) (by omega) (fun z => by have := hX _ z; omega), h.kn (k := 2) (by omega) (by omega) (fun z => by have := hX _ z; omega), h.kn (k := 1172 + 3 * (10 * m + u)) (by omega) (by omega) (fun z => by have := hX _ z; omega), h.kn (k := 3) (by omega) (by omega) (fun z => by have := hX _ z; omega)]
  exact ⟨q1, q2, h.cnt (by omega) (by omega) (fun z => by have := hX _ z; omega) q3, q4, fun y => ⟨h.cnt (by omega) (by omega) (fun z => by have := hX _ z; omega) (q5 y).1, (q5 y).2⟩⟩
theorem EqX.sz (h : EqX X N M) (hX : ∀ k, X k → (k < 331 ∨ 1171 ≤ k) ∧ (k < 4771 ∨ ¬ k % 3 = 1)) (w : WB N B) {m : Nat} (hm : m < kN N 7) : runN (fun i a => a + kN M (4771 + 3 * partN M m i)) (manyN M m) 0 0 = runN (fun i a => a + kN N (4771 + 3 * partN N m i)) (manyN N m) 0 0 := by
  have b7 := w.n7.2
  have b8 := w.n8.2
  obtain ⟨-, -, -, h4, -, h5⟩ := w.wM m hm
  have b4 : manyN N m ≤ 4 := h4.2
  rw [h.many (fun k z => by have := hX k z; omega) (by omega)]
  refine runN_e (fun j a hj => ?_)
  have := (h5 j hj).2
  rw [h.part (fun k z => by have := hX k z; omega) (by omega) (by omega), h.kn (k := 4771 + 3 * partN N m j) (by omega) (by omega) (fun z => by have := hX _ z; omega)]
end Xg
