section Nw
variable {m sn : Nat} {f N B cl : Nat → Int32} {L : Nat} {rd : Nat → Prop}
theorem nw_rows (W : WF N B) (k7 : kN N 7 = m) (hm : m < 120) (hg : gdC f L) {m' : Nat} (h : m' < m) : manyN (nwN m sn f L N B rd cl) m' = manyN N m' ∧ (∀ i, i < 4 → partN (nwN m sn f L N B rd cl) m' i = partN N m' i) ∧ ∀ q, q < kN N 8 → kN (nwN m sn f L N B rd cl) (4771 + 3 * q) = kN N (4771 + 3 * q) := by
  have g1 := hg.1
  have h8 : kN N 8 ≤ 4 * m := by rw [← k7]; exact W.2.1.2.2.2.2.2.2.2
  have w := W.wp
  obtain ⟨kl, -⟩ := ptN_k (B := B) w hm hg h8 (kC f L) (Nat.le_refl _)
  refine ⟨?_, fun i hi => ?_, fun q hq => ?_⟩
  · unfold manyN kN
    rw [nw_old w hm hg h8 (by omega) (by omega) (by omega) (by omega)]
  · unfold partN kN
    rw [nw_old w hm hg h8 (by omega) (by omega) (by omega) (by omega)]
  · unfold kN
    rw [nw_X hm (by omega) (by omega) (by omega), (kl q hq).1]
theorem nw_asks (W : WF N B) (k7 : kN N 7 = m) (hm : m < 120) (hg : gdC f L) {m' x : Nat} (h : m' < m) (hx : x < kN N 6) : asksN (nwN m sn f L N B rd cl) (ptN m f L N B (kC f L)).2 m' x ↔ asksN N B m' x := by
  have g1 := hg.1
  have h8 : kN N 8 ≤ 4 * m := by rw [← k7]; exact W.2.1.2.2.2.2.2.2.2
  have w := W.wp
  have b6 := W.wb.n6.2
  obtain ⟨kl, -⟩ := ptN_k (B := B) w hm hg h8 (kC f L) (Nat.le_refl _)
  obtain ⟨e1, e2, e3⟩ := nw_rows (sn := sn) (rd := rd) (cl := cl) W k7 hm hg h
  have lo : ∀ k, k < 331 → 10 ≤ k → nwN m sn f L N B rd cl k = N k := fun k a b => nw_lo w hm hg h8 a (by omega) (by omega) (by omega)
  have k9 : kN (nwN m sn f L N B rd cl) (209 + 21 * x) = kN N (209 + 21 * x) := by unfold kN; rw [lo _ (by omega) (by omega)]
  have c10 : kN N (209 + 21 * x) ≤ 10 := (W.wH x hx).2.2.2.2.2.1.2
  obtain ⟨-, -, -, m4, -, mp⟩ := W.wM m' (by omega)
  have m4' : manyN N m' ≤ 4 := m4.2
  unfold asksN
  rw [lo (206 + 21 * x) (by omega) (by omega), lo (207 + 21 * x) (by omega) (by omega), lo (209 + 21 * x) (by omega) (by omega), nw_old w hm hg h8 (k := 332 + 7 * m') (by omega) (by omega) (by omega) (by omega), k9]
  have ct : contB (nwN m sn f L N B rd cl) (ptN m f L N B (kC f L)).2 m' (fun k => nwN m sn f L N B rd cl (210 + 21 * x + k)) (kN N (209 + 21 * x)) ↔ contB N B m' (fun k => N (210 + 21 * x + k)) (kN N (209 + 21 * x)) := by
    have at_ : ∀ i k, i < manyN N m' → (atB (nwN m sn f L N B rd cl) (ptN m f L N B (kC f L)).2 (partN N m' i) (fun k => nwN m sn f L N B rd cl (210 + 21 * x + k)) (kN N (209 + 21 * x)) k ↔ atB N B (partN N m' i) (fun k => N (210 + 21 * x + k)) (kN N (209 + 21 * x)) k) := by
      intro i k hi
      have hq := (mp i hi).2
      have l200 : kN N (4771 + 3 * partN N m' i) ≤ 200 := (w.2.2 _ hq).2
      have yb : ∀ j, j < 200 → (ptN m f L N B (kC f L)).2 (200 * partN N m' i + j) = B (200 * partN N m' i + j) := (kl _ hq).2
      unfold atB
      rw [e3 _ hq]
      constructor
      · rintro ⟨a, b, c, d⟩
        refine ⟨a, fun j hj => ?_, ?_, ?_⟩
        · have := b j hj
          rw [show 200 * partN N m' i + k + j = 200 * partN N m' i + (k + j) by omega] at this ⊢
          rw [yb _ (by omega)] at this
          exact this.trans (lo (210 + 21 * x + j) (by omega) (by omega))
        · rcases c with y | y
          · exact Or.inl y
          · by_cases z : k = 0
            · exact Or.inl z
            · rw [show 200 * partN N m' i + k - 1 = 200 * partN N m' i + (k - 1) by omega, yb _ (by omega)] at y
              rw [show 200 * partN N m' i + k - 1 = 200 * partN N m' i + (k - 1) by omega]
              exact Or.inr y
        · rcases d with y | y
          · exact Or.inl y
          · by_cases z : k + kN N (209 + 21 * x) = kN N (4771 + 3 * partN N m' i)
            · exact Or.inl z
            · rw [Nat.add_assoc, yb _ (by omega), ← Nat.add_assoc] at y
              exact Or.inr y
      · rintro ⟨a, b, c, d⟩
        refine ⟨a, fun j hj => ?_, ?_, ?_⟩
        · have := b j hj
          rw [show 200 * partN N m' i + k + j = 200 * partN N m' i + (k + j) by omega] at this ⊢
          rw [yb _ (by omega)]
          exact this.trans (lo (210 + 21 * x + j) (by omega) (by omega)).symm
        · rcases c with y | y
          · exact Or.inl y
          · by_cases z : k = 0
            · exact Or.inl z
            · rw [show 200 * partN N m' i + k - 1 = 200 * partN N m' i + (k - 1) by omega] at y ⊢
              rw [yb _ (by omega)]
              exact Or.inr y
        · rcases d with y | y
          · exact Or.inl y
          · by_cases z : k + kN N (209 + 21 * x) = kN N (4771 + 3 * partN N m' i)
            · exact Or.inl z
            · rw [Nat.add_assoc, yb _ (by omega), ← Nat.add_assoc]
              exact Or.inr y
    unfold contB
    rw [e1]
    exact ⟨fun ⟨i, k, a, b⟩ => ⟨i, k, a, (at_ i k a).mp (by rw [e2 i (by omega)] at b; exact b)⟩, fun ⟨i, k, a, b⟩ => ⟨i, k, a, by rw [e2 i (by omega)]; exact (at_ i k a).mpr b⟩⟩
  rw [ct]
theorem sz_run {H : Nat → Int32} {o : Nat → Nat} : ∀ x, (∀ j, j < x → kN H (o j) = lC f L j) → runN (fun i a => a + kN H (o i)) x 0 0 = szC f L x := by
  intro x
  induction x with
  | zero => intro _; rfl
  | succ x ih =>
    intro h
    rw [runN_s, Nat.zero_add, szC_s, ih (fun j hj => h j (by omega)), h x (by omega)]
theorem Cl_new {S T : St} {n0 nT p : Nat} (g : Cl S n0 p N B) (hp : p = 27) (hn : 197 ≤ n0) (k7 : kN N 7 = m) (hm : m < 120) (hg : gdC f L) (hsn : sn ≤ 10) (P : PF m f L N (ptN m f L N B (kC f L)).1 (ptN m f L N B (kC f L)).2 (pjN m f L N B) (kC f L))
    (hrd : ∃ u, u < kN N 4 ∧ rd u) (hrn : ∀ u, rd u → u < kN N 4) (hcl : ∀ u, u < kN N 4 → ∃ c, cl u = nI c ∧ c < kN N 3)
    (e : ∀ k, k < n0 → ¬ k = p → ¬ (p + 2 ≤ k ∧ k ≤ p + 10) → ¬ (p + 13 ≤ k ∧ k ≤ p + 16) → SameO S T k) (e700 : sr T 700 p = sr S 700 p) (esi : si T 701 p = si S 701 p ∧ si T 702 p = si S 702 p ∧ si T 703 p = si S 703 p ∧ si T 705 p = nI (m + 1))
    (e2 : ar T (p + 2) m = some n0 ∧ ∀ x, ¬ x = m → ar T (p + 2) x = ar S (p + 2) x) (o1 : sr T 303 n0 = some (n0 + 1)) (o2 : ln T (n0 + 1) = kC f L) (o3 : si T 300 n0 = nI sn ∧ si T 301 n0 = N 2 ∧ si T 302 n0 = nI (szC f L (kC f L)))
    (o7 : ∃ msk : Nat, si T 304 n0 = nI msk ∧ msk < 64 ∧ ∀ h, h < 6 → (msk.testBit h = true ↔ h < kN (nwN m sn f L N B rd cl) 6 ∧ asksN (nwN m sn f L N B rd cl) (ptN m f L N B (kC f L)).2 m h))
    (r1 : ∀ u, u < 10 → ai T (p + 3) (10 * m + u) = pif (rd u) 0 (-1) ∧ (u < kN N 4 → ai T (p + 4) (10 * m + u) = cl u) ∧ ai T (p + 5) (10 * m + u) = N 2) (r2 : ∀ k, k < 10 * m → ai T (p + 3) k = ai S (p + 3) k ∧ ai T (p + 4) k = ai S (p + 4) k ∧ ai T (p + 5) k = ai S (p + 5) k)
    (I : Pq T p m n0 (kC f L) N (pjN m f L N B) (ptN m f L N B (kC f L)).1 (ptN m f L N B (kC f L)).2 T nT) : Cl T nT p (nwN m sn f L N B rd cl) (ptN m f L N B (kC f L)).2 := by
  have g1 := hg.1
  have W := g.c0.wf
  have wb := g.c0.wb
  have n2 : kN N 2 ≤ 20000 := by rcases g.dy with y | y; omega; exact y
  have h8 : kN N 8 ≤ 4 * m := by rw [← k7]; exact W.2.1.2.2.2.2.2.2.2
  have w := W.wp
  obtain ⟨w1, w2, w3, w4⟩ := ptN_w (B := B) w hm hg h8 (kC f L) (Nat.le_refl _)
  obtain ⟨kl, kp⟩ := ptN_k (B := B) w hm hg h8 (kC f L) (Nat.le_refl _)
  have b8 := w1.1.2
  have W' := nw_wf (sn := sn) W k7 hm hg n2 hsn P hrd hrn hcl
  have ex := nw_x (B := B) (sn := sn) (rd := rd) (cl := cl) w hm hg h8 True.intro
  have has := fun {m' q : Nat} (h : m' ≤ m) => nw_has (sn := sn) (rd := rd) (cl := cl) W k7 hm hg P (q := q) h
  have kept := fun {m' : Nat} (h : m' ≤ m) => nw_kept (sn := sn) (cl := cl) W k7 hm hg hrd h
  have asks := fun {m' x : Nat} (h : m' < m) (hx : x < kN N 6) => nw_asks (sn := sn) (rd := rd) (cl := cl) W k7 hm hg h hx
  have rows := fun {m' : Nat} (h : m' < m) => nw_rows (sn := sn) (rd := rd) (cl := cl) W k7 hm hg h
  have lo : ∀ k, k < 331 → ¬ k = 7 → ¬ k = 8 → ¬ k = 9 → nwN m sn f L N B rd cl k = N k := fun k a b c d => nw_lo w hm hg h8 a b c d
  have old : ∀ k, 331 ≤ k → k < 4771 → ¬ (331 + 7 * m ≤ k ∧ k < 338 + 7 * m) → (k < 1171 + 30 * m ∨ 1201 + 30 * m ≤ k) → nwN m sn f L N B rd cl k = N k := fun k a b c d => nw_old w hm hg h8 a b c d
  have xx : ∀ k, ¬ k = 7 → ¬ (331 + 7 * m ≤ k ∧ k ≤ 333 + 7 * m) → (k < 1171 + 30 * m ∨ 1201 + 30 * m ≤ k) → nwN m sn f L N B rd cl k = (ptN m f L N B (kC f L)).1 k := fun k a b c => nw_X hm a b c
  have r7 : nwN m sn f L N B rd cl 7 = nI (m + 1) := hy_7
  have rs : nwN m sn f L N B rd cl (331 + 7 * m) = nI sn := hy_s
  have rD : nwN m sn f L N B rd cl (332 + 7 * m) = N 2 := hy_d
  have rm : nwN m sn f L N B rd cl (333 + 7 * m) = nI (kC f L) := hy_m
  have rr : ∀ u, u < 10 → nwN m sn f L N B rd cl (1171 + 3 * (10 * m + u)) = pif (rd u) 0 (-1) ∧ nwN m sn f L N B rd cl (1172 + 3 * (10 * m + u)) = cl u ∧ nwN m sn f L N B rd cl (1173 + 3 * (10 * m + u)) = N 2 := fun u hu => hy_r hm hu
  generalize nwN m sn f L N B rd cl = H at *
  generalize (ptN m f L N B (kC f L)).1 = X at *
  generalize (ptN m f L N B (kC f L)).2 = Y at *
  obtain ⟨-, i2, i3, i4, ⟨i5, i6⟩, i7, i8, i9⟩ := I
  obtain ⟨C1, ⟨r, C2, C3, C4⟩, ⟨C5, C6, C7⟩, ⟨act, C8, C9, C10⟩, C11, C12, C13, C14, C15, C16⟩ := g
  have kn : ∀ k, k < 331 → ¬ k = 7 → ¬ k = 8 → ¬ k = 9 → kN H k = kN N k := fun k a1 a2 a3 a4 => by unfold kN; rw [lo k a1 a2 a3 a4]
  have k7' : kN H 7 = m + 1 := (isCnt_nI (b := 120) r7 (by omega) (by omega)).2
  have k8 : kN H 8 = kN X 8 := by unfold kN; rw [xx 8 (by omega) (by omega) (by omega)]
  have k4 : kN H 4 = kN N 4 := kn 4 (by omega) (by omega) (by omega) (by omega)
  have k6 : kN H 6 = kN N 6 := kn 6 (by omega) (by omega) (by omega) (by omega)
  have b4 := wb.n4.2
  have b6 := wb.n6.2
  have kx : ∀ q, q < kN X 8 → kN H (4771 + 3 * q) = kN X (4771 + 3 * q) ∧ isN H q = isN X q ∧ deN H q = deN X q ∧ lenN H q = lenN X q := fun q hq => ⟨by unfold kN; rw [xx _ (by omega) (by omega) (by omega)], xx _ (by omega) (by omega) (by omega), xx _ (by omega) (by omega) (by omega), xx _ (by omega) (by omega) (by omega)⟩
  refine ⟨W', ⟨r, e700.trans C2, ?_, ?_⟩, ⟨?_, ?_, by rw [esi.2.2.2, r7]⟩, ⟨act, esi.2.2.1.trans C8, C9, fun h hh => ?_⟩, fun u hu => ?_, fun m' hm' => ?_, fun m' u hm' hu => ?_, ⟨⟨?_, ?_, ?_⟩, fun q hq => ?_⟩, ?_, Or.inr ?_⟩
  · rcases C3 with y | ⟨y1, y2⟩
    · exact Or.inl y
    · exact Or.inr ⟨y1, by omega⟩
  · refine x7_cr ex (fun _ z => z) wb (C4.agr (fun i a b => ?_))
    rcases C3 with y | ⟨y1, y2⟩
    · exact e i (by omega) (by omega) (by omega) (by omega)
    · exact e i (by omega) (by omega) (by omega) (by omega)
  · rw [esi.1, C5, lo 2 (by omega) (by omega) (by omega) (by omega)]
  · rw [esi.2.1, C6, lo 10 (by omega) (by omega) (by omega) (by omega)]
  · rw [C10 h hh, k6]
    exact ⟨fun y => ⟨y.1, by rw [lo _ (by omega) (by omega) (by omega) (by omega)]; exact y.2⟩, fun y => ⟨y.1, by have := y.2; rw [lo _ (by omega) (by omega) (by omega) (by omega)] at this; exact this⟩⟩
  · rw [k4] at hu
    rw [(e (p + 1) (by omega) (by omega) (by omega) (by omega)).row, lo _ (by omega) (by omega) (by omega) (by omega)]
    exact C11 u hu
  · rw [k7'] at hm'
    by_cases z : m' = m
    · rw [z]
      have mc := isCnt_nI (b := 4) rm (by omega) (by omega)
      have mm : manyN H m = kC f L := mc.2
      have ep : ∀ i, i < kC f L → H (334 + 7 * m + i) = nI (pjN m f L N B i) := fun i hi => by rw [xx _ (by omega) (by omega) (by omega)]; exact kp i hi
      obtain ⟨msk, q1, q2, q3⟩ := o7
      refine ⟨n0, e2.1, ⟨hn, i2⟩, o1, by rw [mm]; exact o2, by rw [rs]; exact o3.1, by rw [rD]; exact o3.2.1, ?_, fun i hi => ?_, msk, q1, q2, q3⟩
      · rw [o3.2.2, mm]
        congr 1
        refine (sz_run _ (fun j hj => ?_)).symm
        obtain ⟨l1, l2, -⟩ := P.2.2 j hj
        have pe : partN H m j = pjN m f L N B j := by
          unfold partN kN
          rw [ep j hj, nI_clamp (by omega)]
        rw [pe, (kx _ l1).1]
        exact l2.2.1
      · rw [mm] at hi
        rw [ep i hi]
        exact i9 i hi
    · have lt : m' < m := by omega
      obtain ⟨j, x1, x2, x3, x4, x5, x6, x7, x8, msk, x9, x10, x11⟩ := C12 m' (by omega)
      obtain ⟨-, -, -, m4, -, mp⟩ := W.wM m' (by omega)
      have m4' : manyN N m' ≤ 4 := m4.2
      obtain ⟨y1, y2⟩ := x2
      obtain ⟨e1, e2', e3⟩ := rows lt
      have D := e j (by omega) (by omega) (by omega) (by omega)
      have D1 := e (j + 1) (by omega) (by omega) (by omega) (by omega)
      refine ⟨j, (e2.2 m' z).trans x1, ⟨y1, by omega⟩, (D.2.1 303).trans x3, by rw [e1, D1.2.2.2.2.2]; exact x4, by rw [D.1, old (331 + 7 * m') (by omega) (by omega) (by omega) (by omega)]; exact x5, by rw [D.1, old (332 + 7 * m') (by omega) (by omega) (by omega) (by omega)]; exact x6, ?_, fun i hi => ?_, msk, (D.1 304).trans x9, x10, fun h hh => ?_⟩
      · rw [D.1, e1, x7]
        congr 1
        exact (runN_e (fun i b hi => by rw [e2' i (by omega), e3 _ (mp i hi).2])).symm
      · rw [e1] at hi
        rw [D1.row, old (334 + 7 * m' + i) (by omega) (by omega) (by omega) (by omega)]
        exact x8 i hi
      · rw [x11 h hh, k6]
        exact ⟨fun y => ⟨y.1, (asks lt y.1).mpr y.2⟩, fun y => ⟨y.1, (asks lt y.1).mp y.2⟩⟩
  · rw [k7'] at hm'
    rw [k4]
    unfold stN enN clN
    by_cases z : m' = m
    · rw [z, (rr u hu).1, (rr u hu).2.1, (rr u hu).2.2]
      obtain ⟨a1, a2, a3⟩ := r1 u hu
      exact ⟨a1, a3, a2⟩
    · obtain ⟨a1, a2, a3⟩ := r2 (10 * m' + u) (by omega)
      obtain ⟨c1, c2, c3⟩ := C13 m' u (by omega) hu
      rw [a1, a2, a3, old (1171 + 3 * (10 * m' + u)) (by omega) (by omega) (by omega) (by omega), old (1172 + 3 * (10 * m' + u)) (by omega) (by omega) (by omega) (by omega), old (1173 + 3 * (10 * m' + u)) (by omega) (by omega) (by omega) (by omega)]
      exact ⟨c1, c2, c3⟩
  · rw [i3.1, xx 8 (by omega) (by omega) (by omega)]
    exact w1.1.1.symm
  · rw [i5, k8]
    congr 1
    exact cntP_c (fun q hq => by rw [(kx q hq).2.1])
  · rw [i6, k8]
    congr 1
    exact cntP_c (fun q hq => by rw [(kx q hq).2.1, (kx q hq).2.2.1])
  · rw [k8] at hq
    obtain ⟨⟨j, a1, a2, a3, a4, a5, a6⟩, c1, c2, -⟩ := i3.2.2 q hq
    obtain ⟨⟨m', d1, d2, d3, d4⟩, d5⟩ := i7 q hq
    obtain ⟨x1, x2, x3, x4⟩ := kx q hq
    rw [x1, x2, x3, k7']
    refine ⟨⟨j, a1, a2, a3, a4, ?_, a6⟩, ⟨m', by omega, (has d1).mpr d2, fun m'' h y => d3 m'' h ((has (by omega)).mp y), d4⟩, ?_, c1⟩
    · rw [a5, x4]; exact (w1.2.2 q hq).1.symm
    · rw [d5]
      congr 1
      exact cntP_c (fun k hk => by rw [has (by omega), kept (by omega)])
  · exact i8.x (xx 9 (by omega) (by omega) (by omega)) (fun k a b => xx k (by omega) (by omega) (by omega)) w1.2.1.2
  · rw [kn 2 (by omega) (by omega) (by omega) (by omega)]; exact n2
end Nw
