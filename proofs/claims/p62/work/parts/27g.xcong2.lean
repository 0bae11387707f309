section Xh
variable {N M B C : Nat → Int32} {X : Nat → Prop}
theorem EqX.wd (h : EqX X N M) {o : Nat} : ∀ {c : Nat}, o + c ≤ 6211 → 10 ≤ o → (∀ j, j < c → ¬ X (o + j)) → wdN M o c = wdN N o c := by
  intro c hc ho hq
  unfold wdN
  exact runN_e (fun j b hj => by rw [h (o + j) (by omega) (by omega) (hq j hj)])
theorem EqX.name (h : EqX X N M) {o c : Nat} (hc : o + c ≤ 6211) (ho : 10 ≤ o) (hq : ∀ j, j < c → ¬ X (o + j)) : isName M o c ↔ isName N o c := by
  unfold isName
  exact ⟨fun g => ⟨g.1, fun k hk => by rw [← h (o + k) (by omega) (by omega) (hq k hk)]; exact g.2 k hk⟩, fun g => ⟨g.1, fun k hk => by rw [h (o + k) (by omega) (by omega) (hq k hk)]; exact g.2 k hk⟩⟩
theorem EqX.at (h : EqX X N M) (hX : ∀ k, X k → (k < 4771 ∨ ¬ k % 3 = 1)) (b : EqB N B C) {q c k : Nat} {w : Nat → Int32} (hq : q < kN N 8) (h8 : kN N 8 ≤ 480) (hl : kN N (4771 + 3 * q) ≤ 200) : atB M C q w c k ↔ atB N B q w c k := by
  unfold atB
  rw [h.kn (by omega) (by omega) (fun z => by have := hX _ z; omega)]
  have e : ∀ j, j < kN N (4771 + 3 * q) → C (200 * q + j) = B (200 * q + j) := fun j hj => b q j hq hj
  constructor
  · rintro ⟨g1, g2, g3, g4⟩
    refine ⟨g1, fun i hi => by rw [← g2 i hi, Nat.add_assoc, e _ (by omega)], ?_, ?_⟩
    · by_cases z : k = 0
      · exact Or.inl z
      · rcases g3 with y | y
        · exact absurd y z
        · by_cases x : k - 1 < kN N (4771 + 3 * q)
          · rw [show 200 * q + k - 1 = 200 * q + (k - 1) by omega, e _ x] at y
            rw [show 200 * q + k - 1 = 200 * q + (k - 1) by omega]
            exact Or.inr y
          · omega
    · by_cases z : k + c = kN N (4771 + 3 * q)
      · exact Or.inl z
      · rcases g4 with y | y
        · exact absurd y z
        · rw [Nat.add_assoc, e _ (by omega)] at y
          rw [Nat.add_assoc]
          exact Or.inr y
  · rintro ⟨g1, g2, g3, g4⟩
    refine ⟨g1, fun i hi => by rw [← g2 i hi, Nat.add_assoc, e _ (by omega)], ?_, ?_⟩
    · by_cases z : k = 0
      · exact Or.inl z
      · rcases g3 with y | y
        · exact absurd y z
        · by_cases x : k - 1 < kN N (4771 + 3 * q)
          · rw [show 200 * q + k - 1 = 200 * q + (k - 1) by omega] at y
            rw [show 200 * q + k - 1 = 200 * q + (k - 1) by omega, e _ x]
            exact Or.inr y
          · omega
    · by_cases z : k + c = kN N (4771 + 3 * q)
      · exact Or.inl z
      · rcases g4 with y | y
        · exact absurd y z
        · rw [Nat.add_assoc] at y
          rw [Nat.add_assoc, e _ (by omega)]
          exact Or.inr y
theorem EqX.cont (h : EqX X N M) (hX : ∀ k, X k → (11 ≤ k ∨ k = 2) ∧ (k < 331 ∨ 1171 ≤ k) ∧ (k < 4771 ∨ ¬ k % 3 = 1)) (b : EqB N B C) (w : WB N B) {m c : Nat} {wl : Nat → Int32} (hm : m < kN N 7) : contB M C m wl c ↔ contB N B m wl c := by
  have b7 := w.n7.2
  have b8 := w.n8.2
  obtain ⟨-, -, -, h4, -, h5⟩ := w.wM m hm
  have b4 : manyN N m ≤ 4 := h4.2
  unfold contB
  rw [h.many (fun k z => by have := hX k z; omega) (by omega)]
  constructor
  · rintro ⟨i, k, g1, g2⟩
    rw [h.part (fun k z => by have := hX k z; omega) (by omega) (by omega)] at g2
    exact ⟨i, k, g1, (h.at (fun k z => by have := hX k z; omega) b (h5 i g1).2 b8 (w.wP _ (h5 i g1).2).1.2).mp g2⟩
  · rintro ⟨i, k, g1, g2⟩
    refine ⟨i, k, g1, ?_⟩
    rw [h.part (fun k z => by have := hX k z; omega) (by omega) (by omega)]
    exact (h.at (fun k z => by have := hX k z; omega) b (h5 i g1).2 b8 (w.wP _ (h5 i g1).2).1.2).mpr g2
theorem EqX.asks (h : EqX X N M) (hX : ∀ k, X k → (11 ≤ k ∨ k = 2) ∧ (k < 205 ∨ 331 ≤ k ∨ k % 21 = 19) ∧ (k < 331 ∨ 1171 ≤ k) ∧ (k < 4771 ∨ ¬ k % 3 = 1)) (b : EqB N B C) (w : WB N B) {m x : Nat} (hm : m < kN N 7) (hx : x < kN N 6) : asksN M C m x ↔ asksN N B m x := by
  have b7 := w.n7.2
  have b6 := w.n6.2
  have b9 := (w.wH x hx).2.2.2.2.2.1.2
  unfold asksN
  rw [h (206 + 21 * x) (by omega) (by omega) (fun z => by have := hX _ z; omega), h (332 + 7 * m) (by omega) (by omega) (fun z => by have := hX _ z; omega), h (207 + 21 * x) (by omega) (by omega) (fun z => by have := hX _ z; omega), h (209 + 21 * x) (by omega) (by omega) (fun z => by have := hX _ z; omega), h.kn (k := 209 + 21 * x) (by omega) (by omega) (fun z => by have := hX _ z; omega)]
  have e1 : contB M C m (fun k => M (210 + 21 * x + k)) (kN N (209 + 21 * x)) ↔ contB N B m (fun k => N (210 + 21 * x + k)) (kN N (209 + 21 * x)) := by
    rw [h.cont (fun k z => by have := hX k z; omega) b w hm]
    exact cont_c (fun i hi => h (210 + 21 * x + i) (by omega) (by omega) (fun z => by have := hX _ z; omega))
  rw [e1]
theorem EqX.cr {S : St} {r : Nat} (h : EqX X N M) (hX : ∀ k, X k → (11 ≤ k ∨ k = 2) ∧ (83 ≤ k ∨ k = 2) ∧ (k < 83 ∨ 163 ≤ k ∨ k % 8 = 4) ∧ (k < 163 ∨ 205 ≤ k) ∧ (k < 205 ∨ 331 ≤ k ∨ k % 21 = 19)) (w : WB N B) (g : CR S r N) : CR S r M := by
  have b3 := w.n3.2
  have b4 := w.n4.2
  have b5 := w.n5.2
  have b6 := w.n6.2
  obtain ⟨g1, g2, g3, g4, g5, g6⟩ := g
  refine ⟨g1, ?_, ?_, ?_, ?_, ?_⟩
  · rw [h 0 (by omega) (by omega) (fun z => by have := hX _ z; omega), h 1 (by omega) (by omega) (fun z => by have := hX _ z; omega), h 3 (by omega) (by omega) (fun z => by have := hX _ z; omega), h 4 (by omega) (by omega) (fun z => by have := hX _ z; omega), h 5 (by omega) (by omega) (fun z => by have := hX _ z; omega), h 6 (by omega) (by omega) (fun z => by have := hX _ z; omega)]
    exact g2
  · intro c hc
    rw [h.kn (by omega) (by omega) (fun z => by have := hX _ z; omega)] at hc
    obtain ⟨p1, p2, p3, k, p4, p5, p6, p7⟩ := g3 c hc
    rw [h (11 + 9 * c) (by omega) (by omega) (fun z => by have := hX _ z; omega), h (12 + 9 * c) (by omega) (by omega) (fun z => by have := hX _ z; omega), h (13 + 9 * c) (by omega) (by omega) (fun z => by have := hX _ z; omega)]
    exact ⟨p1, p2, p3, k, p4, (h.name (by omega) (by omega) (fun j hj z => by have := hX _ z; omega)).mpr p5, fun i i1 i2 => by rw [h (14 + 9 * c + i) (by omega) (by omega) (fun z => by have := hX _ z; omega)]; exact p6 i i1 i2, by rw [h.wd (by omega) (by omega) (fun j hj z => by have := hX _ z; omega)]; exact p7⟩
  · intro c hc
    rw [h.kn (by omega) (by omega) (fun z => by have := hX _ z; omega)] at hc
    obtain ⟨p1, k, p4, p5, p6, p7⟩ := g4 c hc
    rw [h (83 + 8 * c) (by omega) (by omega) (fun z => by have := hX _ z; omega)]
    exact ⟨p1, k, p4, (h.name (by omega) (by omega) (fun j hj z => by have := hX _ z; omega)).mpr p5, fun i i1 i2 => by rw [h (85 + 8 * c + i) (by omega) (by omega) (fun z => by have := hX _ z; omega)]; exact p6 i i1 i2, by rw [h.wd (by omega) (by omega) (fun j hj z => by have := hX _ z; omega)]; exact p7⟩
  · intro c hc
    rw [h.kn (by omega) (by omega) (fun z => by have := hX _ z; omega)] at hc
    obtain ⟨p1, k, p4, p5, p6, p7⟩ := g5 c hc
    rw [h (163 + 7 * c) (by omega) (by omega) (fun z => by have := hX _ z; omega)]
    exact ⟨p1, k, p4, (h.name (by omega) (by omega) (fun j hj z => by have := hX _ z; omega)).mpr p5, fun i i1 i2 => by rw [h (164 + 7 * c + i) (by omega) (by omega) (fun z => by have := hX _ z; omega)]; exact p6 i i1 i2, by rw [h.wd (by omega) (by omega) (fun j hj z => by have := hX _ z; omega)]; exact p7⟩
  · intro c hc
    rw [h.kn (by omega) (by omega) (fun z => by have := hX _ z; omega)] at hc
    have b9 := (w.wH c hc).2.2.2.2.2.1.2
    obtain ⟨p1, p2, p3, p8, k, p4, p5, p6, p7⟩ := g6 c hc
    rw [h (205 + 21 * c) (by omega) (by omega) (fun z => by have := hX _ z; omega), h (206 + 21 * c) (by omega) (by omega) (fun z => by have := hX _ z; omega), h (207 + 21 * c) (by omega) (by omega) (fun z => by have := hX _ z; omega), h.kn (k := 209 + 21 * c) (by omega) (by omega) (fun z => by have := hX _ z; omega)]
    exact ⟨p1, p2, p3, by rw [h.wd (by omega) (by omega) (fun j hj z => by have := hX _ z; omega)]; exact p8, k, p4, (h.name (by omega) (by omega) (fun j hj z => by have := hX _ z; omega)).mpr p5, fun i i1 i2 => by rw [h (220 + 21 * c + i) (by omega) (by omega) (fun z => by have := hX _ z; omega)]; exact p6 i i1 i2, by rw [h.wd (by omega) (by omega) (fun j hj z => by have := hX _ z; omega)]; exact p7⟩
end Xh
