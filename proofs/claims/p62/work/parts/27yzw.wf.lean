section Wn
variable {m sn : Nat} {f N B cl : Nat → Int32} {L : Nat} {rd : Nat → Prop}
/-- the new net -/
noncomputable def nwN (m sn : Nat) (f : Nat → Int32) (L : Nat) (N B : Nat → Int32) (rd : Nat → Prop) (cl : Nat → Int32) : Nat → Int32 := hy m (kC f L) (nI sn) (N 2) rd cl (ptN m f L N B (kC f L)).1
theorem nw_lo (w : Wp N) (hm : m < 120) (hg : gdC f L) (h8 : kN N 8 ≤ 4 * m) {k : Nat} (a : k < 331) (b : ¬ k = 7) (c : ¬ k = 8) (d : ¬ k = 9) : nwN m sn f L N B rd cl k = N k := by
  obtain ⟨-, -, -, w4⟩ := ptN_w (B := B) w hm hg h8 (kC f L) (Nat.le_refl _)
  unfold nwN
  rw [hy_n b (by omega) (by omega) (by omega) (by omega), w4 k (by omega) c d (by omega)]
theorem nw_X {k : Nat} (hm : m < 120) (b : ¬ k = 7) (c : ¬ (331 + 7 * m ≤ k ∧ k ≤ 333 + 7 * m)) (d : k < 1171 + 30 * m ∨ 1201 + 30 * m ≤ k) : nwN m sn f L N B rd cl k = (ptN m f L N B (kC f L)).1 k := hy_n b (by omega) (by omega) (by omega) d
theorem nw_old (w : Wp N) (hm : m < 120) (hg : gdC f L) (h8 : kN N 8 ≤ 4 * m) {k : Nat} (a : 331 ≤ k) (b : k < 4771) (c : ¬ (331 + 7 * m ≤ k ∧ k < 338 + 7 * m)) (d : k < 1171 + 30 * m ∨ 1201 + 30 * m ≤ k) : nwN m sn f L N B rd cl k = N k := by
  obtain ⟨-, -, -, w4⟩ := ptN_w (B := B) w hm hg h8 (kC f L) (Nat.le_refl _)
  have g1 := hg.1
  rw [nw_X hm (by omega) (by omega) d, w4 k b (by omega) (by omega) (by omega)]
theorem nw_has (W : WF N B) (k7 : kN N 7 = m) (hm : m < 120) (hg : gdC f L) (P : PF m f L N (ptN m f L N B (kC f L)).1 (ptN m f L N B (kC f L)).2 (pjN m f L N B) (kC f L)) {m' q : Nat} (h : m' ≤ m) : hasN (nwN m sn f L N B rd cl) m' q ↔ hsI N (pjN m f L N B) m (kC f L) m' q := by
  have g1 := hg.1
  have h8 : kN N 8 ≤ 4 * m := by rw [← k7]; exact W.2.1.2.2.2.2.2.2.2
  have w := W.wp
  obtain ⟨w1, -, -, -⟩ := ptN_w (B := B) w hm hg h8 (kC f L) (Nat.le_refl _)
  have b8 := w1.1.2
  obtain ⟨-, kp⟩ := ptN_k (B := B) w hm hg h8 (kC f L) (Nat.le_refl _)
  by_cases z : m' = m
  · subst z
    rw [hsI_m]
    have mm : manyN (nwN m' sn f L N B rd cl) m' = kC f L := by
      unfold manyN kN nwN
      rw [hy_m, nI_clamp (by omega)]
    have pp : ∀ i, i < kC f L → partN (nwN m' sn f L N B rd cl) m' i = pjN m' f L N B i := fun i hi => by
      have := (P.2.2 i hi).1
      unfold partN kN
      rw [nw_X hm (by omega) (by omega) (by omega), kp i hi, nI_clamp (by omega)]
    unfold hasN
    rw [mm]
    exact ⟨fun ⟨i, a, b⟩ => ⟨i, a, by rw [← pp i a]; exact b⟩, fun ⟨i, a, b⟩ => ⟨i, a, by rw [pp i a]; exact b⟩⟩
  · have lt : m' < m := by omega
    rw [hsI_lt lt]
    have mm : manyN (nwN m sn f L N B rd cl) m' = manyN N m' := by
      unfold manyN kN
      rw [nw_old w hm hg h8 (by omega) (by omega) (by omega) (by omega)]
    have m4 : manyN N m' ≤ 4 := (W.wM m' (by omega)).2.2.2.1.2
    have pp : ∀ i, i < 4 → partN (nwN m sn f L N B rd cl) m' i = partN N m' i := fun i hi => by
      unfold partN kN
      rw [nw_old w hm hg h8 (by omega) (by omega) (by omega) (by omega)]
    unfold hasN
    rw [mm]
    exact ⟨fun ⟨i, a, b⟩ => ⟨i, a, by rw [← pp i (by omega)]; exact b⟩, fun ⟨i, a, b⟩ => ⟨i, a, by rw [pp i (by omega)]; exact b⟩⟩
theorem nw_kept (W : WF N B) (k7 : kN N 7 = m) (hm : m < 120) (hg : gdC f L) (hrd : ∃ u, u < kN N 4 ∧ rd u) {m' : Nat} (h : m' ≤ m) : keptN (nwN m sn f L N B rd cl) m' ↔ kpI N m m' := by
  have h8 : kN N 8 ≤ 4 * m := by rw [← k7]; exact W.2.1.2.2.2.2.2.2.2
  have w := W.wp
  have b4 := W.wb.n4.2
  have k4 : kN (nwN m sn f L N B rd cl) 4 = kN N 4 := by unfold kN; rw [nw_lo w hm hg h8 (by omega) (by omega) (by omega) (by omega)]
  unfold keptN kpI
  rw [k4]
  by_cases z : m' = m
  · subst z
    obtain ⟨u, a, b⟩ := hrd
    refine ⟨fun _ => Or.inr rfl, fun _ => ⟨u, a, ?_⟩⟩
    unfold stN nwN
    rw [(hy_r hm (by omega)).1, pif_t b]
    decide
  · have st : ∀ u, u < 10 → stN (nwN m sn f L N B rd cl) m' u = stN N m' u := fun u hu => nw_old w hm hg h8 (by omega) (by omega) (by omega) (by omega)
    unfold keptN
    constructor
    · rintro ⟨u, a, b⟩
      rw [st u (by omega)] at b
      exact Or.inl ⟨by omega, u, a, b⟩
    · rintro (⟨-, u, a, b⟩ | y)
      · exact ⟨u, a, by rw [st u (by omega)]; exact b⟩
      · exact absurd y z
theorem nw_x (w : Wp N) (hm : m < 120) (hg : gdC f L) (h8 : kN N 8 ≤ 4 * m) (h9 : True) : EqX (fun k => k = 7 ∨ k = 8 ∨ 331 ≤ k) N (nwN m sn f L N B rd cl) := fun k a b c => nw_lo w hm hg h8 (by omega) (by omega) (by omega) b
theorem nw_wf (W : WF N B) (k7 : kN N 7 = m) (hm : m < 120) (hg : gdC f L) (n2 : kN N 2 ≤ 20000) (hsn : sn ≤ 10) (P : PF m f L N (ptN m f L N B (kC f L)).1 (ptN m f L N B (kC f L)).2 (pjN m f L N B) (kC f L))
    (hrd : ∃ u, u < kN N 4 ∧ rd u) (hrn : ∀ u, rd u → u < kN N 4) (hcl : ∀ u, u < kN N 4 → ∃ c, cl u = nI c ∧ c < kN N 3) : WF (nwN m sn f L N B rd cl) (ptN m f L N B (kC f L)).2 := by
  have g1 := hg.1
  have g0 := kC_1 (f := f) (L := L)
  have h8 : kN N 8 ≤ 4 * m := by rw [← k7]; exact W.2.1.2.2.2.2.2.2.2
  have w := W.wp
  have wb := W.wb
  obtain ⟨w1, w2, w3, w4⟩ := ptN_w (B := B) w hm hg h8 (kC f L) (Nat.le_refl _)
  obtain ⟨kl, kp⟩ := ptN_k (B := B) w hm hg h8 (kC f L) (Nat.le_refl _)
  have b8 := w1.1.2
  have b3 := wb.n3.2
  have b4 := wb.n4.2
  have ex := nw_x (B := B) (sn := sn) (rd := rd) (cl := cl) w hm hg h8 True.intro
  have hX : ∀ k, (k = 7 ∨ k = 8 ∨ 331 ≤ k) → k = 7 ∨ k = 8 ∨ 331 ≤ k := fun _ z => z
  have has := fun {m' q : Nat} (h : m' ≤ m) => nw_has (sn := sn) (rd := rd) (cl := cl) W k7 hm hg P (q := q) h
  have kept := fun {m' : Nat} (h : m' ≤ m) => nw_kept (sn := sn) (cl := cl) W k7 hm hg hrd h
  have lo : ∀ k, k < 331 → ¬ k = 7 → ¬ k = 8 → ¬ k = 9 → nwN m sn f L N B rd cl k = N k := fun k a b c d => nw_lo w hm hg h8 a b c d
  have old : ∀ k, 331 ≤ k → k < 4771 → ¬ (331 + 7 * m ≤ k ∧ k < 338 + 7 * m) → (k < 1171 + 30 * m ∨ 1201 + 30 * m ≤ k) → nwN m sn f L N B rd cl k = N k := fun k a b c d => nw_old w hm hg h8 a b c d
  have xx : ∀ k, ¬ k = 7 → ¬ (331 + 7 * m ≤ k ∧ k ≤ 333 + 7 * m) → (k < 1171 + 30 * m ∨ 1201 + 30 * m ≤ k) → nwN m sn f L N B rd cl k = (ptN m f L N B (kC f L)).1 k := fun k a b c => nw_X hm a b c
  have r7 : nwN m sn f L N B rd cl 7 = nI (m + 1) := hy_7
  have rs : nwN m sn f L N B rd cl (331 + 7 * m) = nI sn := hy_s
  have rD : nwN m sn f L N B rd cl (332 + 7 * m) = N 2 := hy_d
  have rm : nwN m sn f L N B rd cl (333 + 7 * m) = nI (kC f L) := hy_m
  have rr : ∀ u, u < 10 → nwN m sn f L N B rd cl (1171 + 3 * (10 * m + u)) = pif (rd u) 0 (-1) ∧ nwN m sn f L N B rd cl (1172 + 3 * (10 * m + u)) = cl u ∧ nwN m sn f L N B rd cl (1173 + 3 * (10 * m + u)) = N 2 := fun u hu => hy_r hm hu
  generalize nwN m sn f L N B rd cl = H at *
  generalize (ptN m f L N B (kC f L)).1 = X at *
  generalize (ptN m f L N B (kC f L)).2 = Y at *
  have cn : ∀ k b, k < 331 → ¬ k = 7 → ¬ k = 8 → ¬ k = 9 → isCnt N k b → isCnt H k b := fun k b a1 a2 a3 a4 y => by unfold isCnt kN at y ⊢; rw [lo k a1 a2 a3 a4]; exact y
  have kn : ∀ k, k < 331 → ¬ k = 7 → ¬ k = 8 → ¬ k = 9 → kN H k = kN N k := fun k a1 a2 a3 a4 => by unfold kN; rw [lo k a1 a2 a3 a4]
  have c7 := isCnt_nI (b := 120) r7 (by omega) (by omega)
  have k8 : kN H 8 = kN X 8 := by unfold kN; rw [xx 8 (by omega) (by omega) (by omega)]
  have cx : ∀ k b, ¬ k = 7 → ¬ (331 + 7 * m ≤ k ∧ k ≤ 333 + 7 * m) → (k < 1171 + 30 * m ∨ 1201 + 30 * m ≤ k) → isCnt X k b → isCnt H k b := fun k b a1 a2 a3 y => by unfold isCnt kN at y ⊢; rw [xx k a1 a2 a3]; exact y
  have co : ∀ k b, 331 ≤ k → k < 4771 → ¬ (331 + 7 * m ≤ k ∧ k < 338 + 7 * m) → (k < 1171 + 30 * m ∨ 1201 + 30 * m ≤ k) → isCnt N k b → isCnt H k b := fun k b a1 a2 a3 a4 y => by unfold isCnt kN at y ⊢; rw [old k a1 a2 a3 a4]; exact y
  have ko : ∀ k, 331 ≤ k → k < 4771 → ¬ (331 + 7 * m ≤ k ∧ k < 338 + 7 * m) → (k < 1171 + 30 * m ∨ 1201 + 30 * m ≤ k) → kN H k = kN N k := fun k a1 a2 a3 a4 => by unfold kN; rw [old k a1 a2 a3 a4]
  have k2 : kN H 2 = kN N 2 := kn 2 (by omega) (by omega) (by omega) (by omega)
  have n2c : N 2 = nI (kN N 2) := wb.n2.1
  have cN2 : ∀ k b, H k = N 2 → kN N 2 ≤ b → isCnt H k b ∧ kN H k = kN N 2 := fun k b e h => by
    have kk : kN H k = kN N 2 := by unfold kN; rw [e]
    exact ⟨⟨by rw [kk, e]; exact n2c, by rw [kk]; exact h⟩, kk⟩
  refine ⟨⟨cn _ _ (by omega) (by omega) (by omega) (by omega) wb.n0, cn _ _ (by omega) (by omega) (by omega) (by omega) wb.n1, by rw [kn 1 (by omega) (by omega) (by omega) (by omega)]; exact wb.n1p, cn _ _ (by omega) (by omega) (by omega) (by omega) wb.n2⟩,
    ⟨cn _ _ (by omega) (by omega) (by omega) (by omega) wb.n3, cn _ _ (by omega) (by omega) (by omega) (by omega) wb.n4, cn _ _ (by omega) (by omega) (by omega) (by omega) wb.n5, cn _ _ (by omega) (by omega) (by omega) (by omega) wb.n6, c7.1, cx _ _ (by omega) (by omega) (by omega) w1.1, cx _ _ (by omega) (by omega) (by omega) w1.2.1, by rw [k8, c7.2]; omega⟩,
    x7_wC ex hX b3 W.wC, x7_wU ex hX b4 W.wU, x7_wG ex hX wb.n5.2 W.wG, x7_wH ex hX wb.n6.2 W.wH, fun m' hm' => ?_, fun m' u hm' hu => ?_, fun q hq => ?_⟩
  · rw [c7.2] at hm'
    rw [k2, k8]
    by_cases z : m' = m
    · rw [z]
      obtain ⟨e1, e2⟩ := cN2 _ 20000 rD n2
      have mc := isCnt_nI (b := 4) rm (by omega) (by omega)
      refine ⟨(isCnt_nI rs hsn (by omega)).1, e1, by omega, mc.1, by unfold manyN; rw [mc.2]; exact g0, fun i hi => ?_⟩
      unfold manyN at hi
      rw [mc.2] at hi
      have lt := (P.2.2 i hi).1
      have e : H (334 + 7 * m + i) = nI (pjN m f L N B i) := by rw [xx _ (by omega) (by omega) (by omega)]; exact kp i hi
      have := isCnt_nI (b := 480) e (by omega) (by omega)
      exact ⟨this.1, by unfold partN; rw [this.2]; exact lt⟩
    · obtain ⟨a1, a2, a3, a4, a5, a6⟩ := W.wM m' (by omega)
      have m4 := a4.2
      have mm : manyN H m' = manyN N m' := ko _ (by omega) (by omega) (by omega) (by omega)
      rw [mm]
      refine ⟨co _ _ (by omega) (by omega) (by omega) (by omega) a1, co _ _ (by omega) (by omega) (by omega) (by omega) a2, by rw [ko _ (by omega) (by omega) (by omega) (by omega)]; exact a3, co _ _ (by omega) (by omega) (by omega) (by omega) a4, a5, fun i hi => ?_⟩
      obtain ⟨p1, p2⟩ := a6 i hi
      have hi4 : i < 4 := by have : manyN N m' ≤ 4 := m4; omega
      exact ⟨co _ _ (by omega) (by omega) (by omega) (by omega) p1, by unfold partN; rw [ko _ (by omega) (by omega) (by omega) (by omega)]; exact Nat.lt_of_lt_of_le p2 w3⟩
  · rw [c7.2] at hm'
    rw [k2, kn 4 (by omega) (by omega) (by omega) (by omega), kn 3 (by omega) (by omega) (by omega) (by omega)]
    by_cases z : m' = m
    · rw [z]
      obtain ⟨a1, a2, a3⟩ := rr u hu
      obtain ⟨e1, e2⟩ := cN2 _ 22000 a3 (by omega)
      unfold stN
      rw [a1]
      refine ⟨?_, fun h4 => pif_f (fun y => by have := hrn u y; omega), e1, by omega, fun h4 => ?_⟩
      · by_cases y : rd u
        · rw [pif_t y]; exact Or.inr (Or.inl rfl)
        · rw [pif_f y]; exact Or.inl rfl
      · obtain ⟨c, d1, d2⟩ := hcl u h4
        have := isCnt_nI (b := 8) (a2.trans d1) (by omega) (by omega)
        exact ⟨this.1, by rw [this.2]; exact d2⟩
    · obtain ⟨a1, a2, a3, a4, a5⟩ := W.wR m' u (by omega) hu
      have st : stN H m' u = stN N m' u := old _ (by omega) (by omega) (by omega) (by omega)
      rw [st]
      exact ⟨a1, a2, co _ _ (by omega) (by omega) (by omega) (by omega) a3, by rw [ko _ (by omega) (by omega) (by omega) (by omega)]; exact a4, fun h4 => ⟨co _ _ (by omega) (by omega) (by omega) (by omega) (a5 h4).1, by rw [ko _ (by omega) (by omega) (by omega) (by omega)]; exact (a5 h4).2⟩⟩
  · rw [k8] at hq
    rw [k2, c7.2]
    obtain ⟨a1, a2, a3, a4⟩ := P.1 q hq
    obtain ⟨b1, b2, b3'⟩ := P.2.1 q hq
    have kq : kN H (4771 + 3 * q) = kN X (4771 + 3 * q) := by unfold kN; rw [xx _ (by omega) (by omega) (by omega)]
    have kde : kN H (4773 + 3 * q) = kN X (4773 + 3 * q) := by unfold kN; rw [xx _ (by omega) (by omega) (by omega)]
    have iq : isN H q = isN X q := xx _ (by omega) (by omega) (by omega)
    have dq : deN H q = deN X q := xx _ (by omega) (by omega) (by omega)
    rw [kq, iq, dq]
    refine ⟨cx _ _ (by omega) (by omega) (by omega) (w1.2.2 q hq), b2, a3, ?_, ?_, a2, ?_, b3'⟩
    · rcases b1 with y | ⟨y1, y2⟩
      · exact Or.inl y
      · exact Or.inr ⟨cx _ _ (by omega) (by omega) (by omega) y1, by rw [kde]; exact y2⟩
    · rw [a1]
      exact ⟨fun ⟨m', x1, x2, x3⟩ => ⟨m', by omega, (has x1).mpr x2, (kept x1).mpr x3⟩, fun ⟨m', x1, x2, x3⟩ => ⟨m', by omega, (has (by omega)).mp x2, (kept (by omega)).mp x3⟩⟩
    · obtain ⟨m', x1, x2⟩ := a4
      exact ⟨m', by omega, (has x1).mpr x2⟩
end Wn
