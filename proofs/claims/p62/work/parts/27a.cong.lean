/-! a spool's words and bytes matter at their own places alone -/
/-- alike off the journal -/
def EqC (N M : Nat → Int32) : Prop := ∀ k, k < 6211 → ¬ k = 9 → M k = N k
def EqB (N B C : Nat → Int32) : Prop := ∀ q j, q < kN N 8 → j < kN N (4771 + 3 * q) → C (200 * q + j) = B (200 * q + j)
section Cg
variable {N M B C : Nat → Int32}
theorem EqC.rf (N : Nat → Int32) : EqC N N := fun _ _ _ => rfl
theorem EqC.tr {P : Nat → Int32} (h : EqC N M) (g : EqC M P) : EqC N P := fun k a b => (g k a b).trans (h k a b)
theorem EqC.sy (h : EqC N M) : EqC M N := fun k a b => (h k a b).symm
theorem EqC.kn (h : EqC N M) {k : Nat} (a : k < 6211) (b : ¬ k = 9) : kN M k = kN N k := by unfold kN; rw [h k a b]
theorem EqC.cnt (h : EqC N M) {k b : Nat} (a : k < 6211) (c : ¬ k = 9) (g : isCnt N k b) : isCnt M k b := by
  unfold isCnt
  rw [h.kn a c, h k a c]
  exact g
theorem EqC.st (h : EqC N M) {m u : Nat} (hm : m < 120) (hu : u < 10) : stN M m u = stN N m u := h _ (by omega) (by omega)
theorem EqC.cl (h : EqC N M) {m u : Nat} (hm : m < 120) (hu : u < 10) : clN M m u = clN N m u := h _ (by omega) (by omega)
theorem EqC.en (h : EqC N M) {m u : Nat} (hm : m < 120) (hu : u < 10) : enN M m u = enN N m u := h _ (by omega) (by omega)
theorem EqC.le (h : EqC N M) {q : Nat} (hq : q < 480) : lenN M q = lenN N q := h _ (by omega) (by omega)
theorem EqC.is (h : EqC N M) {q : Nat} (hq : q < 480) : isN M q = isN N q := h _ (by omega) (by omega)
theorem EqC.de (h : EqC N M) {q : Nat} (hq : q < 480) : deN M q = deN N q := h _ (by omega) (by omega)
theorem EqC.many (h : EqC N M) {m : Nat} (hm : m < 120) : manyN M m = manyN N m := h.kn (by omega) (by omega)
theorem EqC.part (h : EqC N M) {m i : Nat} (hm : m < 120) (hi : i < 4) : partN M m i = partN N m i := h.kn (by omega) (by omega)
theorem EqC.has (h : EqC N M) {m q : Nat} (hm : m < 120) (h4 : manyN N m ≤ 4) : hasN M m q ↔ hasN N m q := by
  unfold hasN
  rw [h.many hm]
  exact ⟨fun ⟨i, a, b⟩ => ⟨i, a, by rw [← h.part hm (by omega)]; exact b⟩, fun ⟨i, a, b⟩ => ⟨i, a, by rw [h.part hm (by omega)]; exact b⟩⟩
theorem EqC.kept (h : EqC N M) {m : Nat} (hm : m < 120) (h4 : kN N 4 ≤ 10) : keptN M m ↔ keptN N m := by
  unfold keptN
  rw [h.kn (by omega) (by omega)]
  exact ⟨fun ⟨u, a, b⟩ => ⟨u, a, by rw [← h.st hm (by omega)]; exact b⟩, fun ⟨u, a, b⟩ => ⟨u, a, by rw [h.st hm (by omega)]; exact b⟩⟩
theorem EqC.wd (h : EqC N M) {o : Nat} : ∀ {c : Nat}, o + c ≤ 6211 → 10 ≤ o → wdN M o c = wdN N o c := by
  intro c hc ho
  unfold wdN
  exact runN_e (fun j b hj => by rw [h (o + j) (by omega) (by omega)])
theorem EqC.name (h : EqC N M) {o c : Nat} (hc : o + c ≤ 6211) (ho : 10 ≤ o) : isName M o c ↔ isName N o c := by
  unfold isName
  exact ⟨fun g => ⟨g.1, fun k hk => by rw [← h (o + k) (by omega) (by omega)]; exact g.2 k hk⟩, fun g => ⟨g.1, fun k hk => by rw [h (o + k) (by omega) (by omega)]; exact g.2 k hk⟩⟩
theorem EqC.at (h : EqC N M) (b : EqB N B C) {q c k : Nat} {w : Nat → Int32} (hq : q < kN N 8) (h8 : kN N 8 ≤ 480) (hl : kN N (4771 + 3 * q) ≤ 200) : atB M C q w c k ↔ atB N B q w c k := by
  unfold atB
  rw [h.kn (by omega) (by omega)]
  have e : ∀ j, j < kN N (4771 + 3 * q) → C (200 * q + j) = B (200 * q + j) := fun j hj => b q j hq hj
  constructor
  · rintro ⟨g1, g2, g3, g4⟩
    refine ⟨g1, fun i hi => by rw [← g2 i hi, Nat.add_assoc, e _ (by omega)], ?_, ?_⟩
    · by_cases z : k = 0
      · exact Or.inl z
      · rcases g3 with y | y
        · exact absurd y z
        · by_cases x : k - 1 < kN N (4771 + 3 * q)
          · rw [show 200 * q + k - 1 = 200 * q + (k - 1) by omega, e _ x] at y
            rw [show 200 * q + k - 1 = 200 * q + (k - 1) by omega]
            exact Or.inr y
          · omega
    · by_cases z : k + c = kN N (4771 + 3 * q)
      · exact Or.inl z
      · rcases g4 with y | y
        · exact absurd y z
        · rw [Nat.add_assoc, e _ (by omega)] at y
          rw [Nat.add_assoc]
          exact Or.inr y
  · rintro ⟨g1, g2, g3, g4⟩
    refine ⟨g1, fun i hi => by rw [← g2 i hi, Nat.add_assoc, e _ (by omega)], ?_, ?_⟩
    · by_cases z : k = 0
      · exact Or.inl z
      · rcases g3 with y | y
        · exact absurd y z
        · by_cases x : k - 1 < kN N (4771 + 3 * q)
          · rw [show 200 * q + k - 1 = 200 * q + (k - 1) by omega] at y
            rw [show 200 * q + k - 1 = 200 * q + (k - 1) by omega, e _ x]
            exact Or.inr y
          · omega
    · by_cases z : k + c = kN N (4771 + 3 * q)
      · exact Or.inl z
      · rcases g4 with y | y
        · exact absurd y z
        · rw [Nat.add_assoc] at y
          rw [Nat.add_assoc, e _ (by omega)]
          exact Or.inr y
theorem EqC.cont (h : EqC N M) (b : EqB N B C) (w : WB N B) {m c : Nat} {wl : Nat → Int32} (hm : m < kN N 7) : contB M C m wl c ↔ contB N B m wl c := by
  have b7 := w.n7.2
  have b8 := w.n8.2
  obtain ⟨-, -, -, h4, -, h5⟩ := w.wM m hm
  have b4 : manyN N m ≤ 4 := h4.2
  unfold contB
  rw [h.many (by omega)]
  constructor
  · rintro ⟨i, k, g1, g2⟩
    rw [h.part (by omega) (by omega)] at g2
    exact ⟨i, k, g1, (h.at b (h5 i g1).2 b8 (w.wP _ (h5 i g1).2).1.2).mp g2⟩
  · rintro ⟨i, k, g1, g2⟩
    refine ⟨i, k, g1, ?_⟩
    rw [h.part (by omega) (by omega)]
    exact (h.at b (h5 i g1).2 b8 (w.wP _ (h5 i g1).2).1.2).mpr g2
theorem at_c {q c k : Nat} {w v : Nat → Int32} (e : ∀ i, i < c → w i = v i) : atB N B q w c k ↔ atB N B q v c k := by
  unfold atB
  exact ⟨fun ⟨g1, g2, g3⟩ => ⟨g1, fun i hi => (g2 i hi).trans (e i hi), g3⟩, fun ⟨g1, g2, g3⟩ => ⟨g1, fun i hi => (g2 i hi).trans (e i hi).symm, g3⟩⟩
theorem cont_c {m c : Nat} {w v : Nat → Int32} (e : ∀ i, i < c → w i = v i) : contB N B m w c ↔ contB N B m v c := by
  unfold contB
  exact ⟨fun ⟨i, k, a, b⟩ => ⟨i, k, a, (at_c e).mp b⟩, fun ⟨i, k, a, b⟩ => ⟨i, k, a, (at_c e).mpr b⟩⟩
theorem EqC.asks (h : EqC N M) (b : EqB N B C) (w : WB N B) {m x : Nat} (hm : m < kN N 7) (hx : x < kN N 6) : asksN M C m x ↔ asksN N B m x := by
  have b7 := w.n7.2
  have b6 := w.n6.2
  have b9 := (w.wH x hx).2.2.2.2.2.1.2
  unfold asksN
  rw [h (206 + 21 * x) (by omega) (by omega), h (332 + 7 * m) (by omega) (by omega), h (207 + 21 * x) (by omega) (by omega), h (209 + 21 * x) (by omega) (by omega), h.kn (k := 209 + 21 * x) (by omega) (by omega)]
  have e1 : contB M C m (fun k => M (210 + 21 * x + k)) (kN N (209 + 21 * x)) ↔ contB N B m (fun k => N (210 + 21 * x + k)) (kN N (209 + 21 * x)) := by
    rw [h.cont b w hm]
    exact cont_c (fun i hi => h (210 + 21 * x + i) (by omega) (by omega))
  rw [e1]
theorem EqC.cvP (h : EqC N M) (b : EqB N B C) (w : WB N B) {m u x : Nat} (hm : m < kN N 7) (hx : x < kN N 6) : covP M C m u x ↔ covP N B m u x := by
  have b6 := w.n6.2
  unfold covP
  rw [h (208 + 21 * x) (by omega) (by omega), h (205 + 21 * x) (by omega) (by omega), h.asks b w hm hx]
theorem EqC.cov (h : EqC N M) (b : EqB N B C) (w : WB N B) {m u : Nat} (hm : m < kN N 7) : covN M C m u = covN N B m u := by
  unfold covN
  rw [h.kn (by omega) (by omega)]
  exact bits_c (fun x hx => h.cvP b w hm hx)
theorem EqC.wC (h : EqC N M) (b3 : kN N 3 ≤ 8) (g : wC N) : wC M := by
  intro c hc
  rw [h.kn (by omega) (by omega)] at hc
  have q := g c hc
  rw [h (11 + 9 * c) (by omega) (by omega), h (13 + 9 * c) (by omega) (by omega), h.kn (k := 11 + 9 * c) (by omega) (by omega), h.kn (k := 13 + 9 * c) (by omega) (by omega)]
  exact ⟨q.1.imp id (fun y => ⟨h.cnt (by omega) (by omega) y.1, y.2⟩), h.cnt (by omega) (by omega) q.2.1, q.2.2.imp id (fun y => ⟨h.cnt (by omega) (by omega) y.1, y.2⟩)⟩
theorem EqC.wU (h : EqC N M) (b4 : kN N 4 ≤ 10) (g : wU N) : wU M := by
  intro u hu
  rw [h.kn (by omega) (by omega)] at hu
  have q := g u hu
  rw [h.kn (k := 83 + 8 * u) (by omega) (by omega), h.kn (k := 84 + 8 * u) (by omega) (by omega), h.kn (k := 3) (by omega) (by omega)]
  exact ⟨h.cnt (by omega) (by omega) q.1, q.2.1, h.cnt (by omega) (by omega) q.2.2.1, q.2.2.2⟩
theorem EqC.wG (h : EqC N M) (b5 : kN N 5 ≤ 6) (g : wG N) : wG M := by
  intro u hu
  rw [h.kn (by omega) (by omega)] at hu
  have q := g u hu
  rw [h.kn (k := 163 + 7 * u) (by omega) (by omega)]
  exact ⟨h.cnt (by omega) (by omega) q.1, q.2⟩
theorem EqC.wH (h : EqC N M) (b6 : kN N 6 ≤ 6) (g : wH N) : wH M := by
  intro x hx
  rw [h.kn (by omega) (by omega)] at hx
  obtain ⟨q1, q2, q3, q4, q5, q6, q7⟩ := g x hx
  have b9 := q6.2
  rw [h.kn (k := 205 + 21 * x) (by omega) (by omega), h.kn (k := 4) (by omega) (by omega), h (208 + 21 * x) (by omega) (by omega), h.kn (k := 209 + 21 * x) (by omega) (by omega)]
  exact ⟨h.cnt (by omega) (by omega) q1, q2, h.cnt (by omega) (by omega) q3, h.cnt (by omega) (by omega) q4, q5, h.cnt (by omega) (by omega) q6, fun k hk => by rw [h (210 + 21 * x + k) (by omega) (by omega)]; exact q7 k hk⟩
theorem EqC.wM (h : EqC N M) (b7 : kN N 7 ≤ 120) (g : wM N) : wM M := by
  intro m hm
  rw [h.kn (by omega) (by omega)] at hm
  obtain ⟨q1, q2, q3, q4, q5, q6⟩ := g m hm
  have b4 : manyN N m ≤ 4 := q4.2
  rw [h.kn (k := 332 + 7 * m) (by omega) (by omega), h.kn (k := 2) (by omega) (by omega), h.many (by omega)]
  refine ⟨h.cnt (by omega) (by omega) q1, h.cnt (by omega) (by omega) q2, q3, h.cnt (by omega) (by omega) q4, q5, fun i hi => ?_⟩
  rw [h.part (by omega) (by omega), h.kn (k := 8) (by omega) (by omega)]
  exact ⟨h.cnt (by omega) (by omega) (q6 i hi).1, (q6 i hi).2⟩
theorem EqC.wR (h : EqC N M) (b7 : kN N 7 ≤ 120) (g : wR N) : wR M := by
  intro m u hm hu
  rw [h.kn (by omega) (by omega)] at hm
  obtain ⟨q1, q2, q3, q4, q5⟩ := g m u hm hu
  rw [h.st (by omega) hu, h.kn (k := 4) (by omega) (by omega), h.kn (k := 1173 + 3 * (10 * m + u)) (by omega) (by omega), h.kn (k := 2) (by omega) (by omega), h.kn (k := 1172 + 3 * (10 * m + u)) (by omega) (by omega), h.kn (k := 3) (by omega) (by omega)]
  exact ⟨q1, q2, h.cnt (by omega) (by omega) q3, q4, fun y => ⟨h.cnt (by omega) (by omega) (q5 y).1, (q5 y).2⟩⟩
theorem EqC.wP (h : EqC N M) (b : EqB N B C) (b8 : kN N 8 ≤ 480) (g : wP N B) : wP M C := by
  intro q hq
  rw [h.kn (by omega) (by omega)] at hq
  obtain ⟨q1, q2, q3, q4, q5⟩ := g q hq
  have bl := q1.2
  rw [h.kn (k := 4771 + 3 * q) (by omega) (by omega), h.is (by omega), h.de (by omega), h.kn (k := 4773 + 3 * q) (by omega) (by omega), h.kn (k := 2) (by omega) (by omega)]
  exact ⟨h.cnt (by omega) (by omega) q1, q2, q3, q4.imp id (fun y => ⟨h.cnt (by omega) (by omega) y.1, y.2⟩), fun k hk => by rw [b q k hq hk]; exact q5 k hk⟩
theorem EqC.wb (h : EqC N M) (b : EqB N B C) (h9 : isCnt M 9 60) (g : WB N B) : WB M C := by
  obtain ⟨⟨a0, a1, a2, a3⟩, ⟨a4, a5, a6, a7, a8, a9, -⟩, a10, a11, a12, a13, a14, a15, a16⟩ := g
  exact ⟨⟨h.cnt (by omega) (by omega) a0, h.cnt (by omega) (by omega) a1, by rw [h.kn (by omega) (by omega)]; exact a2, h.cnt (by omega) (by omega) a3⟩, ⟨h.cnt (by omega) (by omega) a4, h.cnt (by omega) (by omega) a5, h.cnt (by omega) (by omega) a6, h.cnt (by omega) (by omega) a7, h.cnt (by omega) (by omega) a8, h.cnt (by omega) (by omega) a9, h9⟩, h.wC a4.2 a10, h.wU a5.2 a11, h.wG a6.2 a12, h.wH a7.2 a13, h.wM a8.2 a14, h.wR a8.2 a15, h.wP b a9.2 a16⟩
theorem EqC.wf (h : EqC N M) (b : EqB N B C) (h9 : isCnt M 9 60) (g : WF N B) : WF M C := by
  have w := h.wb b h9 g.wb
  have w0 := g.wb
  have b7 := w0.n7.2
  have b8 := w0.n8.2
  have b4 := w0.n4.2
  have m4 : ∀ m, m < kN N 7 → manyN N m ≤ 4 := fun m hm => (w0.wM m hm).2.2.2.1.2
  refine ⟨w.1, ⟨w.n3, w.n4, w.n5, w.n6, w.n7, w.n8, w.n9, ?_⟩, w.wC, w.wU, w.wG, w.wH, w.wM, w.wR, fun q hq => ?_⟩
  · rw [h.kn (k := 8) (by omega) (by omega), h.kn (k := 7) (by omega) (by omega)]
    exact g.2.1.2.2.2.2.2.2.2
  · have hq' := hq
    rw [h.kn (by omega) (by omega)] at hq'
    obtain ⟨p1, p2, p3, p4, p5⟩ := w.wP q hq
    refine ⟨p1, p2, p3, p4, ?_, ?_, ?_, p5⟩
    · rw [h.de (by omega), g.link hq', h.kn (k := 7) (by omega) (by omega)]
      exact ⟨fun ⟨m, x1, x2, x3⟩ => ⟨m, x1, (h.has (by omega) (m4 m x1)).mpr x2, (h.kept (by omega) b4).mpr x3⟩, fun ⟨m, x1, x2, x3⟩ => ⟨m, x1, (h.has (by omega) (m4 m x1)).mp x2, (h.kept (by omega) b4).mp x3⟩⟩
    · rw [h.de (by omega), h.is (by omega)]
      exact g.isd hq'
    · rw [h.kn (k := 7) (by omega) (by omega)]
      obtain ⟨m, x1, x2⟩ := g.inm hq'
      exact ⟨m, x1, (h.has (by omega) (m4 m x1)).mpr x2⟩
theorem EqC.cr {S : St} {r : Nat} (h : EqC N M) (w : WB N B) (g : CR S r N) : CR S r M := by
  have b3 := w.n3.2
  have b4 := w.n4.2
  have b5 := w.n5.2
  have b6 := w.n6.2
  obtain ⟨g1, g2, g3, g4, g5, g6⟩ := g
  refine ⟨g1, ?_, ?_, ?_, ?_, ?_⟩
  · rw [h 0 (by omega) (by omega), h 1 (by omega) (by omega), h 3 (by omega) (by omega), h 4 (by omega) (by omega), h 5 (by omega) (by omega), h 6 (by omega) (by omega)]
    exact g2
  · intro c hc
    rw [h.kn (by omega) (by omega)] at hc
    obtain ⟨p1, p2, p3, k, p4, p5, p6, p7⟩ := g3 c hc
    rw [h (11 + 9 * c) (by omega) (by omega), h (12 + 9 * c) (by omega) (by omega), h (13 + 9 * c) (by omega) (by omega)]
    exact ⟨p1, p2, p3, k, p4, (h.name (by omega) (by omega)).mpr p5, fun i i1 i2 => by rw [h (14 + 9 * c + i) (by omega) (by omega)]; exact p6 i i1 i2, by rw [h.wd (by omega) (by omega)]; exact p7⟩
  · intro c hc
    rw [h.kn (by omega) (by omega)] at hc
    obtain ⟨p1, k, p4, p5, p6, p7⟩ := g4 c hc
    rw [h (83 + 8 * c) (by omega) (by omega)]
    exact ⟨p1, k, p4, (h.name (by omega) (by omega)).mpr p5, fun i i1 i2 => by rw [h (85 + 8 * c + i) (by omega) (by omega)]; exact p6 i i1 i2, by rw [h.wd (by omega) (by omega)]; exact p7⟩
  · intro c hc
    rw [h.kn (by omega) (by omega)] at hc
    obtain ⟨p1, k, p4, p5, p6, p7⟩ := g5 c hc
    rw [h (163 + 7 * c) (by omega) (by omega)]
    exact ⟨p1, k, p4, (h.name (by omega) (by omega)).mpr p5, fun i i1 i2 => by rw [h (164 + 7 * c + i) (by omega) (by omega)]; exact p6 i i1 i2, by rw [h.wd (by omega) (by omega)]; exact p7⟩
  · intro c hc
    rw [h.kn (by omega) (by omega)] at hc
    have b9 := (w.wH c hc).2.2.2.2.2.1.2
    obtain ⟨p1, p2, p3, p8, k, p4, p5, p6, p7⟩ := g6 c hc
    rw [h (205 + 21 * c) (by omega) (by omega), h (206 + 21 * c) (by omega) (by omega), h (207 + 21 * c) (by omega) (by omega), h.kn (k := 209 + 21 * c) (by omega) (by omega)]
    exact ⟨p1, p2, p3, by rw [h.wd (by omega) (by omega)]; exact p8, k, p4, (h.name (by omega) (by omega)).mpr p5, fun i i1 i2 => by rw [h (220 + 21 * c + i) (by omega) (by omega)]; exact p6 i i1 i2, by rw [h.wd (by omega) (by omega)]; exact p7⟩
theorem EqC.sz (h : EqC N M) (w : WB N B) {m : Nat} (hm : m < kN N 7) : runN (fun i a => a + kN M (4771 + 3 * partN M m i)) (manyN M m) 0 0 = runN (fun i a => a + kN N (4771 + 3 * partN N m i)) (manyN N m) 0 0 := by
  have b7 := w.n7.2
  have b8 := w.n8.2
  obtain ⟨-, -, -, h4, -, h5⟩ := w.wM m hm
  have b4 : manyN N m ≤ 4 := h4.2
  rw [h.many (by omega)]
  refine runN_e (fun j a hj => ?_)
  have := (h5 j hj).2
  rw [h.part (by omega) (by omega), h.kn (k := 4771 + 3 * partN N m j) (by omega) (by omega)]
theorem Cl0.cong {S : St} {n p : Nat} (h : EqC N M) (b : EqB N B C) (h9 : isCnt M 9 60) (g : Cl0 S n p N B) : Cl0 S n p M C := by
  have w := g.wb
  have b3 := w.n3.2
  have b4 := w.n4.2
  have b6 := w.n6.2
  have b7 := w.n7.2
  have b8 := w.n8.2
  have m4 : ∀ m, m < kN N 7 → manyN N m ≤ 4 := fun m hm => (w.wM m hm).2.2.2.1.2
  obtain ⟨g1, ⟨r, g2, g3, g4⟩, g5, ⟨act, g6, g7, g8⟩, g9, g10, g11, g12⟩ := g
  refine ⟨h.wf b h9 g1, ⟨r, g2, g3, h.cr w g4⟩, ?_, ⟨act, g6, g7, fun x hx => ?_⟩, fun u hu => ?_, fun m hm => ?_, fun m u hm hu => ?_, ?_, fun q hq => ?_⟩
  · rw [h 2 (by omega) (by omega), h 10 (by omega) (by omega), h 7 (by omega) (by omega)]; exact g5
  · rw [g8 x hx, h.kn (by omega) (by omega), h (208 + 21 * x) (by omega) (by omega)]
  · rw [h.kn (by omega) (by omega)] at hu
    rw [h (84 + 8 * u) (by omega) (by omega)]; exact g9 u hu
  · rw [h.kn (by omega) (by omega)] at hm
    obtain ⟨j, x1, x2, x3, x4, x5, x6, x7, x8, msk, x9, x10, x11⟩ := g10 m hm
    have := m4 m hm
    refine ⟨j, x1, x2, x3, by rw [h.many (by omega)]; exact x4, by rw [h (331 + 7 * m) (by omega) (by omega)]; exact x5, by rw [h (332 + 7 * m) (by omega) (by omega)]; exact x6, by rw [h.sz w hm]; exact x7, fun i hi => ?_, msk, x9, x10, fun x hx => ?_⟩
    · rw [h.many (by omega)] at hi
      rw [h (334 + 7 * m + i) (by omega) (by omega)]; exact x8 i hi
    · rw [x11 x hx, h.kn (by omega) (by omega)]
      exact ⟨fun y => ⟨y.1, (h.asks b w hm y.1).mpr y.2⟩, fun y => ⟨y.1, (h.asks b w hm y.1).mp y.2⟩⟩
  · rw [h.kn (by omega) (by omega)] at hm
    rw [h.st (by omega) hu, h.en (by omega) hu, h.kn (k := 4) (by omega) (by omega), h.cl (by omega) hu]
    exact g11 m u hm hu
  · rw [h 8 (by omega) (by omega), h.kn (k := 8) (by omega) (by omega), cntP_c (P := fun q => isN M q = 1) (Q := fun q => isN N q = 1) (fun k hk => by rw [h.is (by omega)]), cntP_c (P := fun q => isN M q = 1 ∧ ¬ deN M q = -1) (Q := fun q => isN N q = 1 ∧ ¬ deN N q = -1) (fun k hk => by rw [h.is (by omega), h.de (by omega)])]
    exact g12.1
  · rw [h.kn (by omega) (by omega)] at hq
    obtain ⟨⟨j, x1, x2, x3, x4, x5, x6⟩, ⟨m, y1, y2, y3, y4⟩, z1, z2⟩ := g12.2 q hq
    have bl := (w.wP q hq).1.2
    refine ⟨⟨j, x1, x2, x3, by rw [h.kn (by omega) (by omega)]; exact x4, by rw [h.le (by omega)]; exact x5, fun k hk => ?_⟩, ⟨m, by rw [h.kn (by omega) (by omega)]; exact y1, (h.has (by omega) (m4 m y1)).mpr y2, fun m' hm' => fun y => y3 m' hm' ((h.has (by omega) (m4 m' (by omega))).mp y), y4⟩, ?_, by rw [h.is (by omega), h.de (by omega)]; exact z2⟩
    · rw [h.kn (by omega) (by omega)] at hk
      rw [b q k hq hk]; exact x6 k hk
    · rw [h.kn (k := 7) (by omega) (by omega), cntP_c (P := fun m => hasN M m q ∧ keptN M m) (Q := fun m => hasN N m q ∧ keptN N m) (fun k hk => by rw [h.has (by omega) (m4 k hk), h.kept (by omega) b4])]
      exact z1
theorem CJ.cong {S : St} {p : Nat} (h : ∀ k, k < 6391 → M k = N k) (h9 : kN N 9 ≤ 60) (g : CJ S p N) : CJ S p M := by
  have k9 : kN M 9 = kN N 9 := by unfold kN; rw [h 9 (by omega)]
  obtain ⟨g1, f, g2, g3, g4⟩ := g
  refine ⟨by rw [h 9 (by omega)]; exact g1, f, g2, g3, fun k hk => ?_⟩
  rw [k9] at hk
  rw [h (6211 + 3 * k) (by omega), h (6212 + 3 * k) (by omega), h (6213 + 3 * k) (by omega)]
  exact g4 k hk
theorem Cl.cong {S : St} {n p : Nat} (h : ∀ k, k < 6391 → M k = N k) (b : EqB N B C) (g : Cl S n p N B) : Cl S n p M C := by
  have e : EqC N M := fun k a _ => h k (by omega)
  have n9 := g.c0.wb.n9
  have h9 : isCnt M 9 60 := by
    unfold isCnt kN
    rw [h 9 (by omega)]
    exact n9
  refine Cl.mk' (Cl0.cong e b h9 g.c0) (g.cj.cong h n9.2) ?_
  rw [e.kn (by omega) (by omega)]
  exact g.dy
end Cg
