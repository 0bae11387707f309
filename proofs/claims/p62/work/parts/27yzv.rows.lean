section X7
variable {N M B : Nat → Int32} {X : Nat → Prop}
theorem x7_wC (h : EqX X N M) (hX : ∀ k, X k → k = 7 ∨ k = 8 ∨ 331 ≤ k) (b3 : kN N 3 ≤ 8) (g : wC N) : wC M := by
  intro c hc
  rw [h.kn (by omega) (by omega) (fun z => by have := hX _ z; omega)] at hc
  have q := g c hc
  rw [h (11 + 9 * c) (by omega) (by omega) (fun z => by have := hX _ z; omega), h (13 + 9 * c) (by omega) (by omega) (fun z => by have := hX _ z; omega), h.kn (k := 11 + 9 * c) (by omega) (by omega) (fun z => by have := hX _ z; omega), h.kn (k := 13 + 9 * c) (by omega) (by omega) (fun z => by have := hX _ z; omega)]
  exact ⟨q.1.imp id (fun y => ⟨h.cnt (by omega) (by omega) (fun z => by have := hX _ z; omega) y.1, y.2⟩), h.cnt (by omega) (by omega) (fun z => by have := hX _ z; omega) q.2.1, q.2.2.imp id (fun y => ⟨h.cnt (by omega) (by omega) (fun z => by have := hX _ z; omega) y.1, y.2⟩)⟩
theorem x7_wG (h : EqX X N M) (hX : ∀ k, X k → k = 7 ∨ k = 8 ∨ 331 ≤ k) (b5 : kN N 5 ≤ 6) (g : wG N) : wG M := by
  intro u hu
  rw [h.kn (by omega) (by omega) (fun z => by have := hX _ z; omega)] at hu
  have q := g u hu
  rw [h.kn (k := 163 + 7 * u) (by omega) (by omega) (fun z => by have := hX _ z; omega)]
  exact ⟨h.cnt (by omega) (by omega) (fun z => by have := hX _ z; omega) q.1, q.2⟩
theorem x7_wU (h : EqX X N M) (hX : ∀ k, X k → k = 7 ∨ k = 8 ∨ 331 ≤ k) (b4 : kN N 4 ≤ 10) (g : wU N) : wU M := by
  intro u hu
  rw [h.kn (by omega) (by omega) (fun z => by have := hX _ z; omega)] at hu
  have q := g u hu
  rw [h.kn (k := 83 + 8 * u) (by omega) (by omega) (fun z => by have := hX _ z; omega), h.kn (k := 84 + 8 * u) (by omega) (by omega) (fun z => by have := hX _ z; omega), h.kn (k := 3) (by omega) (by omega) (fun z => by have := hX _ z; omega)]
  exact ⟨h.cnt (by omega) (by omega) (fun z => by have := hX _ z; omega) q.1, q.2.1, h.cnt (by omega) (by omega) (fun z => by have := hX _ z; omega) q.2.2.1, q.2.2.2⟩
theorem x7_wH (h : EqX X N M) (hX : ∀ k, X k → k = 7 ∨ k = 8 ∨ 331 ≤ k) (b6 : kN N 6 ≤ 6) (g : wH N) : wH M := by
  intro x hx
  rw [h.kn (by omega) (by omega) (fun z => by have := hX _ z; omega)] at hx
  obtain ⟨q1, q2, q3, q4, q5, q6, q7⟩ := g x hx
  have b9 := q6.2
  rw [h.kn (k := 205 + 21 * x) (by omega) (by omega) (fun z => by have := hX _ z; omega), h.kn (k := 4) (by omega) (by omega) (fun z => by have := hX _ z; omega), h (208 + 21 * x) (by omega) (by omega) (fun z => by have := hX _ z; omega), h.kn (k := 209 + 21 * x) (by omega) (by omega) (fun z => by have := hX _ z; omega)]
  exact ⟨h.cnt (by omega) (by omega) (fun z => by have := hX _ z; omega) q1, q2, h.cnt (by omega) (by omega) (fun z => by have := hX _ z; omega) q3, h.cnt (by omega) (by omega) (fun z => by have := hX _ z; omega) q4, q5, h.cnt (by omega) (by omega) (fun z => by have := hX _ z; omega) q6, fun k hk => by rw [h (210 + 21 * x + k) (by omega) (by omega) (fun z => by have := hX _ z; omega)]; exact q7 k hk⟩
theorem x7_cr {S : St} {r : Nat} (h : EqX X N M) (hX : ∀ k, X k → k = 7 ∨ k = 8 ∨ 331 ≤ k) (w : WB N B) (g : CR S r N) : CR S r M := by
  have b3 := w.n3.2
  have b4 := w.n4.2
  have b5 := w.n5.2
  have b6 := w.n6.2
  obtain ⟨g1, g2, g3, g4, g5, g6⟩ := g
  refine ⟨g1, ?_, ?_, ?_, ?_, ?_⟩
  · rw [h 0 (by omega) (by omega) (fun z => by have := hX _ z; omega), h 1 (by omega) (by omega) (fun z => by have := hX _ z; omega), h 3 (by omega) (by omega) (fun z => by have := hX _ z; omega), h 4 (by omega) (by omega) (fun z => by have := hX _ z; omega), h 5 (by omega) (by omega) (fun z => by have := hX _ z; omega), h 6 (by omega) (by omega) (fun z => by have := hX _ z; omega)]
    exact g2
  · intro c hc
    rw [h.kn (by omega) (by omega) (fun z => by have := hX _ z; omega)] at hc
    obtain ⟨p1, p2, p3, k, p4, p5, p6, p7⟩ := g3 c hc
    rw [h (11 + 9 * c) (by omega) (by omega) (fun z => by have := hX _ z; omega), h (12 + 9 * c) (by omega) (by omega) (fun z => by have := hX _ z; omega), h (13 + 9 * c) (by omega) (by omega) (fun z => by have := hX _ z; omega)]
    exact ⟨p1, p2, p3, k, p4, (h.name (by omega) (by omega) (fun j hj z => by have := hX _ z; omega)).mpr p5, fun i i1 i2 => by rw [h (14 + 9 * c + i) (by omega) (by omega) (fun z => by have := hX _ z; omega)]; exact p6 i i1 i2, by rw [h.wd (by omega) (by omega) (fun j hj z => by have := hX _ z; omega)]; exact p7⟩
  · intro c hc
    rw [h.kn (by omega) (by omega) (fun z => by have := hX _ z; omega)] at hc
    obtain ⟨p1, k, p4, p5, p6, p7⟩ := g4 c hc
    rw [h (83 + 8 * c) (by omega) (by omega) (fun z => by have := hX _ z; omega)]
    exact ⟨p1, k, p4, (h.name (by omega) (by omega) (fun j hj z => by have := hX _ z; omega)).mpr p5, fun i i1 i2 => by rw [h (85 + 8 * c + i) (by omega) (by omega) (fun z => by have := hX _ z; omega)]; exact p6 i i1 i2, by rw [h.wd (by omega) (by omega) (fun j hj z => by have := hX _ z; omega)]; exact p7⟩
  · intro c hc
    rw [h.kn (by omega) (by omega) (fun z => by have := hX _ z; omega)] at hc
    obtain ⟨p1, k, p4, p5, p6, p7⟩ := g5 c hc
    rw [h (163 + 7 * c) (by omega) (by omega) (fun z => by have := hX _ z; omega)]
    exact ⟨p1, k, p4, (h.name (by omega) (by omega) (fun j hj z => by have := hX _ z; omega)).mpr p5, fun i i1 i2 => by rw [h (164 + 7 * c + i) (by omega) (by omega) (fun z => by have := hX _ z; omega)]; exact p6 i i1 i2, by rw [h.wd (by omega) (by omega) (fun j hj z => by have := hX _ z; omega)]; exact p7⟩
  · intro c hc
    rw [h.kn (by omega) (by omega) (fun z => by have := hX _ z; omega)] at hc
    have b9 := (w.wH c hc).2.2.2.2.2.1.2
    obtain ⟨p1, p2, p3, p8, k, p4, p5, p6, p7⟩ := g6 c hc
    rw [h (205 + 21 * c) (by omega) (by omega) (fun z => by have := hX _ z; omega), h (206 + 21 * c) (by omega) (by omega) (fun z => by have := hX _ z; omega), h (207 + 21 * c) (by omega) (by omega) (fun z => by have := hX _ z; omega), h.kn (k := 209 + 21 * c) (by omega) (by omega) (fun z => by have := hX _ z; omega)]
    exact ⟨p1, p2, p3, by rw [h.wd (by omega) (by omega) (fun j hj z => by have := hX _ z; omega)]; exact p8, k, p4, (h.name (by omega) (by omega) (fun j hj z => by have := hX _ z; omega)).mpr p5, fun i i1 i2 => by rw [h (220 + 21 * c + i) (by omega) (by omega) (fun z => by have := hX _ z; omega)]; exact p6 i i1 i2, by rw [h.wd (by omega) (by omega) (fun j hj z => by have := hX _ z; omega)]; exact p7⟩
end X7
section Pn7
variable {m i : Nat} {f N B : Nat → Int32} {L : Nat}
/-- what stays of a spool whose parts are entered -/
theorem ptN_k (w : Wp N) (hm : m < 120) (hg : gdC f L) (h8 : kN N 8 ≤ 4 * m) : ∀ x, x ≤ kC f L → (∀ q, q < kN N 8 → (ptN m f L N B x).1 (4771 + 3 * q) = N (4771 + 3 * q) ∧ ∀ k, k < 200 → (ptN m f L N B x).2 (200 * q + k) = B (200 * q + k)) ∧ ∀ j, j < x → (ptN m f L N B x).1 (334 + 7 * m + j) = nI (pjN m f L N B j) := by
  have g1 := hg.1
  intro x
  induction x with
  | zero => intro _; exact ⟨fun q _ => ⟨rfl, fun k _ => rfl⟩, fun j hj => by omega⟩
  | succ x ih =>
    intro hx
    obtain ⟨i1, i2⟩ := ih (by omega)
    obtain ⟨w1, w2, w3, w4⟩ := ptN_w (B := B) w hm hg h8 x (by omega)
    have b8 := w1.1.2
    constructor
    · intro q hq
      by_cases z : pjN m f L N B x < kN (ptN m f L N B x).1 8
      · obtain ⟨-, eY, d, -, -⟩ := pt_found w1 hm (by omega) z
        rw [eY]
        exact ⟨(d q (by omega)).2.1.trans (i1 q hq).1, (i1 q hq).2⟩
      · obtain ⟨-, -, same, -, by1, -⟩ := pt_new w1 hm (by omega) (by omega) (hg.2 x (by omega)).2 z
        exact ⟨(same _ (by omega) (by omega) (by omega)).trans (i1 q hq).1, fun k hk => (by1 _ (by omega)).trans ((i1 q hq).2 k hk)⟩
    · intro j hj
      have e : (ptN m f L N B (x + 1)).1 = upd (pt1 (ptN m f L N B x).1 (ptN m f L N B x).2 f L x).1 (334 + 7 * m + x) (nI (pjN m f L N B x)) := by rw [ptN_s]; rfl
      rw [e]
      by_cases y : j = x
      · rw [y, upd_e]
      · rw [upd_n (by omega), pt1_lo b8 (by omega) (by omega) (by omega)]
        exact i2 j (by omega)
end Pn7
