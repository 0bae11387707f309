section Cx
variable {N M B : Nat → Int32} {X : Nat → Prop} {S S' : St} {n p : Nat}
/-- what X may touch: quotas, active flags, references, what is known of parts but their sizes -/
def okX (X : Nat → Prop) : Prop := ∀ k, X k → 83 ≤ k ∧ (k < 83 ∨ 163 ≤ k ∨ k % 8 = 4) ∧ (k < 163 ∨ 205 ≤ k) ∧ (k < 205 ∨ 331 ≤ k ∨ k % 21 = 19) ∧ (k < 331 ∨ 1171 ≤ k) ∧ (k < 4771 ∨ ¬ k % 3 = 1)
theorem Cl0.x (h : EqX X N M) (hX : okX X) (h9 : isCnt M 9 60) (g : Cl0 S n p N B)
    (o : ∀ i, (i = p + 2 ∨ i = p + 7 ∨ i = p + 8) ∨ (1 ≤ i ∧ i ≤ 19) ∨ (197 ≤ i ∧ i < n) → SameO S S' i) (s0 : sr S' 700 p = sr S 700 p) (s1 : si S' 701 p = si S 701 p ∧ si S' 702 p = si S 702 p ∧ si S' 705 p = si S 705 p)
    (U : wU M) (H : wH M) (R : wR M) (P : wP M B) (K : ∀ q, q < kN N 8 → (deN M q = -1 ↔ ∃ m, m < kN N 7 ∧ hasN N m q ∧ keptN M m) ∧ (deN M q = -1 → isN M q = 1))
    (a : ∃ act : Nat, si S' 703 p = nI act ∧ act < 64 ∧ ∀ h, h < 6 → (act.testBit h = true ↔ h < kN N 6 ∧ M (208 + 21 * h) = 1)) (q : ∀ u, u < kN N 4 → ai S' (p + 1) u = M (84 + 8 * u))
    (f : ∀ m u, m < kN N 7 → u < 10 → ai S' (p + 3) (10 * m + u) = stN M m u ∧ ai S' (p + 5) (10 * m + u) = enN M m u ∧ (u < kN N 4 → ai S' (p + 4) (10 * m + u) = clN M m u))
    (c1 : si S' 800 (p + 6) = si S 800 (p + 6) ∧ si S' 801 (p + 6) = nI (cntP (fun q => isN M q = 1) (kN N 8)) ∧ si S' 802 (p + 6) = nI (cntP (fun q => isN M q = 1 ∧ ¬ deN M q = -1) (kN N 8)))
    (c2 : ∀ q, q < kN N 8 → ai S' (p + 9) q = nI (cntP (fun m => hasN N m q ∧ keptN M m) (kN N 7)) ∧ ai S' (p + 10) q = if isN M q = 1 then deN M q else -2) : Cl0 S' n p M B := by
  have w := g.wb
  have b3 := w.n3.2
  have b4 := w.n4.2
  have b5 := w.n5.2
  have b6 := w.n6.2
  have b7 := w.n7.2
  have b8 := w.n8.2
  have m4 : ∀ m, m < kN N 7 → manyN N m ≤ 4 := fun m hm => (w.wM m hm).2.2.2.1.2
  have Z : ∀ k, k < 83 → ¬ X k := fun k hk z => by have := hX k z; omega
  have hd : ∀ k, k < 11 → ¬ k = 9 → M k = N k := fun k a b => h k (by omega) b (Z k (by omega))
  have hk : ∀ k, k < 11 → ¬ k = 9 → kN M k = kN N k := fun k a b => h.kn (by omega) b (Z k (by omega))
  have hc : ∀ {k b : Nat}, k < 11 → ¬ k = 9 → isCnt N k b → isCnt M k b := fun a b c => h.cnt (by omega) b (Z _ (by omega)) c
  have has : ∀ m q, m < kN N 7 → (hasN M m q ↔ hasN N m q) := fun m q hm => h.has (fun k z => by have := hX k z; omega) (by omega) (m4 m hm)
  have eb : EqB N B B := EqB.rf N B
  obtain ⟨g1, ⟨r, g2, g3, g4⟩, g5, g6, g9, g10, g11, g12⟩ := g
  have g3' := g3
  unfold dyn at g3'
  refine ⟨⟨⟨hc (by omega) (by omega) w.n0, hc (by omega) (by omega) w.n1, by rw [hk 1 (by omega) (by omega)]; exact w.n1p, hc (by omega) (by omega) w.n2⟩, ⟨hc (by omega) (by omega) w.n3, hc (by omega) (by omega) w.n4, hc (by omega) (by omega) w.n5, hc (by omega) (by omega) w.n6, hc (by omega) (by omega) w.n7, hc (by omega) (by omega) w.n8, h9, by rw [hk 8 (by omega) (by omega), hk 7 (by omega) (by omega)]; exact g1.2.1.2.2.2.2.2.2.2⟩, h.wC (fun k z => by have := hX k z; omega) b3 w.wC, U, h.wG (fun k z => by have := hX k z; omega) b5 w.wG, H, h.wM (fun k z => by have := hX k z; omega) b7 w.wM, R, fun q hq => ?_⟩, ⟨r, s0.trans g2, g3, (h.cr (fun k z => by have := hX k z; omega) w g4).agr (fun i i1 i2 => o i (by omega))⟩, ?_, ?_, ?_, fun m hm => ?_, fun m u hm hu => ?_, ?_, fun q hq => ?_⟩
  · have hq' := hq
    rw [hk 8 (by omega) (by omega)] at hq'
    obtain ⟨p1, p2, p3, p4, p5⟩ := P q hq
    refine ⟨p1, p2, p3, p4, ?_, (K q hq').2, ?_, p5⟩
    · rw [(K q hq').1, hk 7 (by omega) (by omega)]
      exact ⟨fun ⟨m, x1, x2, x3⟩ => ⟨m, x1, (has m q x1).mpr x2, x3⟩, fun ⟨m, x1, x2, x3⟩ => ⟨m, x1, (has m q x1).mp x2, x3⟩⟩
    · rw [hk 7 (by omega) (by omega)]
      obtain ⟨m, x1, x2⟩ := g1.inm hq'
      exact ⟨m, x1, (has m q x1).mpr x2⟩
  · rw [s1.1, s1.2.1, s1.2.2, hd 2 (by omega) (by omega), hd 10 (by omega) (by omega), hd 7 (by omega) (by omega)]; exact g5
  · rw [hk 6 (by omega) (by omega)]; exact a
  · rw [hk 4 (by omega) (by omega)]; exact q
  · rw [hk 7 (by omega) (by omega)] at hm
    obtain ⟨j, x1, x2, x3, x4, x5, x6, x7, x8, msk, x9, x10, x11⟩ := g10 m hm
    have x2' := x2
    obtain ⟨y1, y2⟩ := x2'
    have D := o j (by omega)
    have D1 := o (j + 1) (by omega)
    have := m4 m hm
    have mm : manyN M m = manyN N m := h.many (fun k z => by have := hX k z; omega) (by omega)
    have nx : ∀ k, 331 ≤ k → k < 1171 → M k = N k := fun k k1 k2 => h k (by omega) (by omega) (fun z => by have := hX k z; omega)
    refine ⟨j, by rw [(o (p + 2) (by omega)).2.2.2.2.1]; exact x1, x2, by rw [D.2.1]; exact x3, by rw [mm, D1.2.2.2.2.2]; exact x4, by rw [D.1, nx (331 + 7 * m) (by omega) (by omega)]; exact x5, by rw [D.1, nx (332 + 7 * m) (by omega) (by omega)]; exact x6, by rw [D.1, h.sz (fun k z => by have := hX k z; omega) w hm]; exact x7, fun i hi => ?_, msk, by rw [D.1]; exact x9, x10, fun x hx => ?_⟩
    · rw [mm] at hi
      rw [D1.2.2.1, nx (334 + 7 * m + i) (by omega) (by omega)]; exact x8 i hi
    · rw [x11 x hx, hk 6 (by omega) (by omega)]
      have hA : ∀ k, X k → (11 ≤ k ∨ k = 2) ∧ (k < 205 ∨ 331 ≤ k ∨ k % 21 = 19) ∧ (k < 331 ∨ 1171 ≤ k) ∧ (k < 4771 ∨ ¬ k % 3 = 1) := fun k z => by have := hX k z; omega
      exact ⟨fun y => ⟨y.1, (h.asks hA eb w hm y.1).mpr y.2⟩, fun y => ⟨y.1, (h.asks hA eb w hm y.1).mp y.2⟩⟩
  · rw [hk 7 (by omega) (by omega)] at hm
    rw [hk 4 (by omega) (by omega)]
    exact f m u hm hu
  · rw [hk 8 (by omega) (by omega), hd 8 (by omega) (by omega), c1.1]
    exact ⟨g12.1.1, c1.2⟩
  · rw [hk 8 (by omega) (by omega)] at hq
    obtain ⟨⟨j, x1, x2, x3, x4, x5, x6⟩, ⟨m, y1, y2, y3, y4⟩, z1, z2⟩ := g12.2 q hq
    have x2' := x2
    obtain ⟨t1, t2⟩ := x2'
    have D := o j (by omega)
    have D1 := o (j + 1) (by omega)
    have hl : ∀ k, X k → (k < 4771 ∨ ¬ k % 3 = 1) := fun k z => by have := hX k z; omega
    have kl : kN M (4771 + 3 * q) = kN N (4771 + 3 * q) := h.kn (by omega) (by omega) (fun z => by have := hX _ z; omega)
    refine ⟨⟨j, by rw [(o (p + 7) (by omega)).2.2.2.2.1]; exact x1, x2, by rw [D.2.1]; exact x3, by rw [kl, D1.2.2.2.2.2]; exact x4, by rw [D.1, h.le hl (by omega)]; exact x5, by rw [kl, D1.2.2.1]; exact x6⟩, ⟨m, by rw [hk 7 (by omega) (by omega)]; exact y1, (has m q y1).mpr y2, fun m' hm' y => y3 m' hm' ((has m' q (by omega)).mp y), by rw [(o (p + 8) (by omega)).2.2.1]; exact y4⟩, ?_, (c2 q hq).2⟩
    rw [(c2 q hq).1, hk 7 (by omega) (by omega), cntP_c (P := fun m => hasN M m q ∧ keptN M m) (Q := fun m => hasN N m q ∧ keptN M m) (fun k hk2 => by rw [has k q hk2])]
end Cx
