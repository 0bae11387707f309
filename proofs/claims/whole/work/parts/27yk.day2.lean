/-! the class's spool a day later -/
section Dy
variable {S : St} {n p : Nat} {N B : Nat → Int32}
theorem Cl.day (g : Cl S n p N B) (hp : 27 ≤ p ∧ p + 20 < 212) (h : kN N 2 < 22000) (hd : p = 48 ∨ kN N 2 < 20000) : Cl (ui S 701 p (nI (kN N 2 + 1))) n p (dayN N) B := by
  have C := g.c0
  have w := C.wb
  have b4 := w.n4.2
  have b7 := w.n7.2
  have b8 := w.n8.2
  have wd := w.day h
  obtain ⟨d1, d2⟩ := dayN_2 h
  have hE : EqX (fun k => k = 2) N (dayN N) := fun k _ _ z => dayN_n z
  have eb : EqB N B B := EqB.rf N B
  have k4 : kN (dayN N) 4 = kN N 4 := dayN_k (by omega)
  have k6 : kN (dayN N) 6 = kN N 6 := dayN_k (by omega)
  have k7 : kN (dayN N) 7 = kN N 7 := dayN_k (by omega)
  have k8 : kN (dayN N) 8 = kN N 8 := dayN_k (by omega)
  have sI : ∀ f i, ¬ f = 701 → si (ui S 701 p (nI (kN N 2 + 1))) f i = si S f i := fun f i q => by rw [si_ui, if_neg (fun z => q z.1)]
  have m4 : ∀ m, m < kN N 7 → manyN N m ≤ 4 := fun m hm => (w.wM m hm).2.2.2.1.2
  have has : ∀ m q, m < kN N 7 → (hasN (dayN N) m q ↔ hasN N m q) := fun m q hm => hE.has (fun k z => by omega) (by omega) (m4 m hm)
  have kept : ∀ m, m < kN N 7 → (keptN (dayN N) m ↔ keptN N m) := fun m hm => hE.kept (fun k z => by omega) (by omega) b4
  have is : ∀ q, isN (dayN N) q = isN N q := fun q => dayN_n (by omega)
  have de : ∀ q, deN (dayN N) q = deN N q := fun q => dayN_n (by omega)
  have O : ∀ i, ¬ i = p → SameO S (ui S 701 p (nI (kN N 2 + 1))) i := fun i a => SameO.ui _ a
  obtain ⟨r, g2, g3, g4⟩ := C.ru
  have g3' := g3
  unfold dyn at g3'
  have W : WF (dayN N) B := by
    refine ⟨wd.1, ⟨wd.n3, wd.n4, wd.n5, wd.n6, wd.n7, wd.n8, wd.n9, by rw [k8, k7]; exact C.wf.2.1.2.2.2.2.2.2.2⟩, wd.wC, wd.wU, wd.wG, wd.wH, wd.wM, wd.wR, fun q hq => ?_⟩
    obtain ⟨p1, p2, p3, p4, p5⟩ := wd.wP q hq
    rw [k8] at hq
    refine ⟨p1, p2, p3, p4, ?_, by rw [is, de]; exact C.wf.isd hq, ?_, p5⟩
    · rw [de, k7, C.wf.link hq]
      exact ⟨fun ⟨m, x1, x2, x3⟩ => ⟨m, x1, (has m q x1).mpr x2, (kept m x1).mpr x3⟩, fun ⟨m, x1, x2, x3⟩ => ⟨m, x1, (has m q x1).mp x2, (kept m x1).mp x3⟩⟩
    · rw [k7]
      obtain ⟨m, x1, x2⟩ := C.wf.inm hq
      exact ⟨m, x1, (has m q x1).mpr x2⟩
  refine Cl.mk' ⟨W, ⟨r, g2, g3, (hE.cr (fun k z => by omega) w g4).agr (fun i i1 i2 => O i (by omega))⟩, ⟨?_, ?_, ?_⟩, ?_, fun u hu => ?_, fun m hm => ?_, fun m u hm hu => ?_, ?_, fun q hq => ?_⟩ ((g.cj.agr (fun i i1 i2 => O i (by omega))).x (dayN_n (by omega)) (fun k _ _ => dayN_n (by omega)) w.n9.2) (by rw [d2]; exact hd)
  · rw [si_ui, if_pos ⟨rfl, rfl⟩]; exact (upd_e N 2 _).symm
  · rw [sI _ _ (by decide), dayN_n (by omega)]; exact C.s702
  · rw [sI _ _ (by decide), dayN_n (by omega)]; exact C.s705.trans w.n7.1.symm
  · obtain ⟨act, a1, a2, a3⟩ := C.ac
    refine ⟨act, (sI _ _ (by decide)).trans a1, a2, fun x hx => ?_⟩
    rw [dayN_n (by omega), k6]
    exact a3 x hx
  · rw [k4] at hu
    rw [dayN_n (by omega)]
    exact C.qu u hu
  · rw [k7] at hm
    obtain ⟨j, x1, x2, x3, x4, x5, x6, x7, x8, msk, x9, x10, x11⟩ := C.cm m hm
    have x2' := x2
    obtain ⟨y1, y2⟩ := x2'
    have mm : manyN (dayN N) m = manyN N m := dayN_k (by omega)
    have := m4 m hm
    refine ⟨j, x1, x2, x3, by rw [mm]; exact x4, by rw [sI _ _ (by decide), dayN_n (by omega)]; exact x5, by rw [sI _ _ (by decide), dayN_n (by omega)]; exact x6, by rw [sI _ _ (by decide), hE.sz (fun k z => by omega) w hm]; exact x7, fun i hi => ?_, msk, by rw [sI _ _ (by decide)]; exact x9, x10, fun x hx => ?_⟩
    · rw [mm] at hi
      rw [dayN_n (by omega)]
      exact x8 i hi
    · rw [x11 x hx, k6]
      have hA : ∀ k, k = 2 → (11 ≤ k ∨ k = 2) ∧ (k < 205 ∨ 331 ≤ k ∨ k % 21 = 19) ∧ (k < 331 ∨ 1171 ≤ k) ∧ (k < 4771 ∨ ¬ k % 3 = 1) := fun k z => by omega
      exact ⟨fun y => ⟨y.1, (hE.asks hA eb w hm y.1).mpr y.2⟩, fun y => ⟨y.1, (hE.asks hA eb w hm y.1).mp y.2⟩⟩
  · rw [k7] at hm
    have e0 : stN (dayN N) m u = stN N m u := dayN_n (by omega)
    have e1 : clN (dayN N) m u = clN N m u := dayN_n (by omega)
    have e2 : enN (dayN N) m u = enN N m u := dayN_n (by omega)
    rw [e0, e1, e2, k4]
    exact C.cf m u hm hu
  · rw [sI _ _ (by decide), sI _ _ (by decide), sI _ _ (by decide), k8, dayN_n (by omega)]
    obtain ⟨s0, s1, s2⟩ := C.cp.1
    refine ⟨s0, s1.trans (congrArg nI (cntP_c (fun q _ => by rw [is]))), s2.trans (congrArg nI (cntP_c (fun q _ => by rw [is, de])))⟩
  · rw [k8] at hq
    obtain ⟨⟨j, x1, x2, x3, x4, x5, x6⟩, ⟨m, y1, y2, y3, y4⟩, z1, z2⟩ := C.cp.2 q hq
    have kl : kN (dayN N) (4771 + 3 * q) = kN N (4771 + 3 * q) := dayN_k (by omega)
    have el : lenN (dayN N) q = lenN N q := dayN_n (by omega)
    refine ⟨⟨j, x1, x2, x3, by rw [kl]; exact x4, by rw [sI _ _ (by decide), el]; exact x5, by rw [kl]; exact x6⟩, ⟨m, by rw [k7]; exact y1, (has m q y1).mpr y2, fun m' hm' y => y3 m' hm' ((has m' q (by omega)).mp y), y4⟩, ?_, by rw [is, de]; exact z2⟩
    rw [k7]
    exact z1.trans (congrArg nI (cntP_c (fun m' hm' => by rw [has m' q hm', kept m' hm'])))
end Dy
