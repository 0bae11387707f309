/-! the parts of a new message: what holds on the way -/
noncomputable def pjN (m : Nat) (f : Nat → Int32) (L : Nat) (N B : Nat → Int32) (j : Nat) : Nat := nbC (ptN m f L N B j).1 (ptN m f L N B j).2 f L j
/-- message m' has the part, the new message with its first i places -/
def hsI (N : Nat → Int32) (pj : Nat → Nat) (m i m' q : Nat) : Prop := (m' < m ∧ hasN N m' q) ∨ (m' = m ∧ ∃ j, j < i ∧ pj j = q)
def kpI (N : Nat → Int32) (m m' : Nat) : Prop := (m' < m ∧ keptN N m') ∨ m' = m
def PF (m : Nat) (f : Nat → Int32) (L : Nat) (N X Y : Nat → Int32) (pj : Nat → Nat) (i : Nat) : Prop :=
  (∀ q, q < kN X 8 → (deN X q = -1 ↔ ∃ m', m' ≤ m ∧ hsI N pj m i m' q ∧ kpI N m m') ∧ (deN X q = -1 → isN X q = 1) ∧ (isN X q = 0 ∨ isN X q = 1) ∧ ∃ m', m' ≤ m ∧ hsI N pj m i m' q) ∧
  (∀ q, q < kN X 8 → (deN X q = -1 ∨ (isCnt X (4773 + 3 * q) 22000 ∧ kN X (4773 + 3 * q) ≤ kN N 2)) ∧ 1 ≤ kN X (4771 + 3 * q) ∧ ∀ k, k < kN X (4771 + 3 * q) → (Y (200 * q + k)).toInt8.toInt32 = Y (200 * q + k)) ∧
  ∀ j, j < i → pj j < kN X 8 ∧ lkP X Y f L j (pj j) ∧ ∀ q, q < pj j → ¬ lkP X Y f L j q
section Pd
variable {m i : Nat} {f N B : Nat → Int32} {L : Nat}
/-- a place whose part is found -/
theorem pt_found (w : Wp (ptN m f L N B i).1) (hm : m < 120) (hi : i < 4) (z : pjN m f L N B i < kN (ptN m f L N B i).1 8) :
    kN (ptN m f L N B (i + 1)).1 8 = kN (ptN m f L N B i).1 8 ∧ (ptN m f L N B (i + 1)).2 = (ptN m f L N B i).2 ∧ (∀ q, q < 480 → isN (ptN m f L N B (i + 1)).1 q = isN (ptN m f L N B i).1 q ∧ lenN (ptN m f L N B (i + 1)).1 q = lenN (ptN m f L N B i).1 q ∧ kN (ptN m f L N B (i + 1)).1 (4771 + 3 * q) = kN (ptN m f L N B i).1 (4771 + 3 * q) ∧ deN (ptN m f L N B (i + 1)).1 q = if q = pjN m f L N B i then -1 else deN (ptN m f L N B i).1 q) ∧
    (deN (ptN m f L N B i).1 (pjN m f L N B i) = -1 → (ptN m f L N B (i + 1)).1 = upd (ptN m f L N B i).1 (334 + 7 * m + i) (nI (pjN m f L N B i))) ∧ (¬ deN (ptN m f L N B i).1 (pjN m f L N B i) = -1 → (ptN m f L N B (i + 1)).1 = upd (lgN (upd (ptN m f L N B i).1 (4773 + 3 * pjN m f L N B i) (-1)) 7 (nI (pjN m f L N B i))) (334 + 7 * m + i) (nI (pjN m f L N B i))) := by
  have b8 := w.1.2
  rw [ptN_s]
  generalize hX : ptN m f L N B i = A at *
  obtain ⟨X, Y⟩ := A
  have eq : pjN m f L N B i = nbC X Y f L i := by unfold pjN; rw [hX]
  rw [eq] at z ⊢
  generalize nbC X Y f L i = q0 at z ⊢ eq
  have e1 : ptM m f L (X, Y) i = (upd (if deN X q0 = -1 then X else lgN (upd X (4773 + 3 * q0) (-1)) 7 (nI q0)) (334 + 7 * m + i) (nI q0), Y) := by
    have : nbC X Y f L i = q0 := by rw [← eq]; unfold pjN; rw [hX]
    unfold ptM pt1
    rw [this, if_pos z]
  rw [e1]
  have z' : q0 < kN X 8 := z
  have b8' : kN X 8 ≤ 480 := b8
  by_cases z2 : deN X q0 = -1
  · rw [if_pos z2]
    refine ⟨by show kN (upd X _ _) 8 = kN X 8; unfold kN; rw [upd_n (by omega)], rfl, fun q hq => ⟨upd_n (by omega), upd_n (by omega), by show kN (upd X _ _) _ = kN X _; unfold kN; rw [upd_n (by omega)], ?_⟩, fun _ => rfl, fun y => absurd z2 y⟩
    show deN (upd X _ _) q = if q = q0 then -1 else deN X q
    have : deN (upd X (334 + 7 * m + i) (nI q0)) q = deN X q := upd_n (by omega)
    rw [this]
    by_cases y : q = q0
    · rw [if_pos y, y]; exact z2
    · rw [if_neg y]
  · rw [if_neg z2]
    have e : ∀ k, k < 6211 → ¬ k = 9 → ¬ k = 334 + 7 * m + i → ¬ k = 4773 + 3 * q0 → upd (lgN (upd X (4773 + 3 * q0) (-1)) 7 (nI q0)) (334 + 7 * m + i) (nI q0) k = X k := fun k a b c d => by rw [upd_n c, lgN_lo a b, upd_n d]
    refine ⟨by show kN (upd _ _ _) 8 = kN X 8; unfold kN; rw [e 8 (by omega) (by omega) (by omega) (by omega)], rfl, fun q hq => ⟨e _ (by omega) (by omega) (by omega) (by omega), e _ (by omega) (by omega) (by omega) (by omega), by show kN (upd _ _ _) _ = kN X _; unfold kN; rw [e _ (by omega) (by omega) (by omega) (by omega)], ?_⟩, fun y => absurd y z2, fun _ => rfl⟩
    show upd _ _ _ (4773 + 3 * q) = if q = q0 then -1 else X (4773 + 3 * q)
    by_cases y : q = q0
    · rw [if_pos y, y, upd_n (by omega), lgN_lo (by omega) (by omega), upd_e]
    · rw [if_neg y, e _ (by omega) (by omega) (by omega) (by omega)]
/-- a place whose part is new -/
theorem pt_new (w : Wp (ptN m f L N B i).1) (hm : m < 120) (hi : i < 4) (h8 : kN (ptN m f L N B i).1 8 < 480) (hl : lC f L i ≤ 200) (z : ¬ pjN m f L N B i < kN (ptN m f L N B i).1 8) :
    pjN m f L N B i = kN (ptN m f L N B i).1 8 ∧ kN (ptN m f L N B (i + 1)).1 8 = kN (ptN m f L N B i).1 8 + 1 ∧ (∀ k, ¬ k = 8 → ¬ (4771 + 3 * kN (ptN m f L N B i).1 8 ≤ k ∧ k ≤ 4773 + 3 * kN (ptN m f L N B i).1 8) → ¬ k = 334 + 7 * m + i → (ptN m f L N B (i + 1)).1 k = (ptN m f L N B i).1 k) ∧
    (isN (ptN m f L N B (i + 1)).1 (pjN m f L N B i) = 1 ∧ deN (ptN m f L N B (i + 1)).1 (pjN m f L N B i) = -1 ∧ lenN (ptN m f L N B (i + 1)).1 (pjN m f L N B i) = nI (lC f L i) ∧ kN (ptN m f L N B (i + 1)).1 (4771 + 3 * pjN m f L N B i) = lC f L i) ∧
    (∀ k, k < 200 * kN (ptN m f L N B i).1 8 → (ptN m f L N B (i + 1)).2 k = (ptN m f L N B i).2 k) ∧ (∀ k, k < lC f L i → (ptN m f L N B (i + 1)).2 (200 * kN (ptN m f L N B i).1 8 + k) = f (cC f L i + k)) := by
  rw [ptN_s]
  generalize hX : ptN m f L N B i = A at *
  obtain ⟨X, Y⟩ := A
  have eq : pjN m f L N B i = nbC X Y f L i := by unfold pjN; rw [hX]
  have nb := nbC_le (N := X) (B := Y) (f := f) (L := L) (j := i)
  have h8' : kN X 8 < 480 := h8
  have z' : ¬ nbC X Y f L i < kN X 8 := by rw [← eq]; exact z
  have e0 : nbC X Y f L i = kN X 8 := by omega
  have e1 : ptM m f L (X, Y) i = (upd (upd (upd (upd (upd X (4771 + 3 * kN X 8) (nI (lC f L i))) (4772 + 3 * kN X 8) 1) (4773 + 3 * kN X 8) (-1)) 8 (nI (kN X 8 + 1))) (334 + 7 * m + i) (nI (kN X 8)), byU Y f (kN X 8) (cC f L i) (lC f L i)) := by
    unfold ptM pt1
    rw [e0, if_neg (by omega)]
  rw [eq, e0, e1]
  have el : upd (upd (upd (upd (upd X (4771 + 3 * kN X 8) (nI (lC f L i))) (4772 + 3 * kN X 8) 1) (4773 + 3 * kN X 8) (-1)) 8 (nI (kN X 8 + 1))) (334 + 7 * m + i) (nI (kN X 8)) (4771 + 3 * kN X 8) = nI (lC f L i) := by rw [upd_n (by omega), upd_n (by omega), upd_n (by omega), upd_n (by omega), upd_e]
  have e8 : upd (upd (upd (upd (upd X (4771 + 3 * kN X 8) (nI (lC f L i))) (4772 + 3 * kN X 8) 1) (4773 + 3 * kN X 8) (-1)) 8 (nI (kN X 8 + 1))) (334 + 7 * m + i) (nI (kN X 8)) 8 = nI (kN X 8 + 1) := by rw [upd_n (by omega), upd_e]
  refine ⟨rfl, (isCnt_nI (b := 480) e8 (by omega) (by omega)).2, fun k a b c => ?_, ⟨?_, ?_, el, (isCnt_nI (b := 200) el hl (by omega)).2⟩, fun k hk => ?_, fun k hk => ?_⟩
  · show upd _ _ _ k = X k
    have b' : ¬ (4771 + 3 * kN X 8 ≤ k ∧ k ≤ 4773 + 3 * kN X 8) := b
    rw [upd_n c, upd_n a, upd_n (by omega), upd_n (by omega), upd_n (by omega)]
  · show upd _ _ _ (4772 + 3 * kN X 8) = 1
    rw [upd_n (by omega), upd_n (by omega), upd_n (by omega), upd_e]
  · show upd _ _ _ (4773 + 3 * kN X 8) = -1
    rw [upd_n (by omega), upd_n (by omega), upd_e]
  · show byU _ _ _ _ _ k = Y k
    unfold byU
    have hk' : k < 200 * kN X 8 := hk
    rw [if_neg (by omega)]
  · show byU _ _ _ _ _ (200 * kN X 8 + k) = _
    unfold byU
    rw [if_pos (by omega), show 200 * kN X 8 + k - 200 * kN X 8 = k by omega]
/-- a place is the first of its kind if its part is none of the earlier ones -/
theorem first_iff {X Y : Nat → Int32} {pj : Nat → Nat} (P : PF m f L N X Y pj i) (q0 : Nat) (hq : q0 = nbC X Y f L i) : fsC f L i ↔ ¬ ∃ j, j < i ∧ pj j = q0 := by
  obtain ⟨-, -, pre⟩ := P
  obtain ⟨-, sp2, sp3, sp4⟩ := fnd_sp (P := lkP X Y f L i) (kN X 8) 0
  rw [Nat.zero_add] at sp4
  have lk_sm : ∀ j q, smC f L j i → (lkP X Y f L i q ↔ lkP X Y f L j q) := by
    intro j q s
    unfold lkP
    rw [← s.1]
    exact ⟨fun y => ⟨y.1, y.2.1, fun k hk => (y.2.2 k hk).trans (s.2 k hk).symm⟩, fun y => ⟨y.1, y.2.1, fun k hk => (y.2.2 k hk).trans (s.2 k hk)⟩⟩
  constructor
  · rintro h ⟨j, j1, j2⟩
    obtain ⟨p1, p2, p3⟩ := pre j j1
    have lt : q0 < kN X 8 := by rw [← j2]; exact p1
    have l2 : lkP X Y f L i q0 := by rw [hq] at lt ⊢; exact sp4 lt
    rw [j2] at p2
    refine h j j1 ⟨p2.2.1.symm.trans l2.2.1, fun k hk => ?_⟩
    have a := p2.2.2 k hk
    have b := l2.2.2 k (by rw [← l2.2.1, p2.2.1]; exact hk)
    exact a.symm.trans b
  · intro h j j1 s
    obtain ⟨p1, p2, p3⟩ := pre j j1
    apply h
    refine ⟨j, j1, ?_⟩
    rw [hq]
    exact (fnd_eq p1 ((lk_sm j _ s).mpr p2) (fun y hy w => p3 y hy ((lk_sm j y s).mp w))).symm
theorem PF.step (hi8 : ∀ x, x < L → (f x).toInt8.toInt32 = f x) (P : PF m f L N (ptN m f L N B i).1 (ptN m f L N B i).2 (pjN m f L N B) i) (w : Wp (ptN m f L N B i).1) (hm : m < 120) (hi : i < kC f L) (hg : gdC f L) (h8 : kN (ptN m f L N B i).1 8 < 480) : PF m f L N (ptN m f L N B (i + 1)).1 (ptN m f L N B (i + 1)).2 (pjN m f L N B) (i + 1) := by
  obtain ⟨g1, g2⟩ := hg
  obtain ⟨l1, l2⟩ := g2 i hi
  obtain ⟨P1, P2, P3⟩ := P
  obtain ⟨-, sp2, sp3, sp4⟩ := fnd_sp (P := lkP (ptN m f L N B i).1 (ptN m f L N B i).2 f L i) (kN (ptN m f L N B i).1 8) 0
  rw [Nat.zero_add] at sp4
  have epj : pjN m f L N B i = fnd (lkP (ptN m f L N B i).1 (ptN m f L N B i).2 f L i) (kN (ptN m f L N B i).1 8) 0 := rfl
  rw [← epj] at sp3 sp4
  have hs1 : ∀ m' q, ¬ q = pjN m f L N B i → (hsI N (pjN m f L N B) m (i + 1) m' q ↔ hsI N (pjN m f L N B) m i m' q) := by
    intro m' q ne
    unfold hsI
    constructor
    · rintro (y | ⟨y, j, j1, j2⟩)
      · exact Or.inl y
      · refine Or.inr ⟨y, j, ?_, j2⟩
        by_cases e : j = i
        · rw [e] at j2; exact absurd j2.symm ne
        · omega
    · rintro (y | ⟨y, j, j1, j2⟩)
      · exact Or.inl y
      · exact Or.inr ⟨y, j, by omega, j2⟩
  have self : hsI N (pjN m f L N B) m (i + 1) m (pjN m f L N B i) := Or.inr ⟨rfl, i, by omega, rfl⟩
  by_cases z : pjN m f L N B i < kN (ptN m f L N B i).1 8
  · obtain ⟨k8, eY, d, -, -⟩ := pt_found w hm (by omega) z
    have lk : ∀ j q, q < kN (ptN m f L N B i).1 8 → (lkP (ptN m f L N B (i + 1)).1 (ptN m f L N B (i + 1)).2 f L j q ↔ lkP (ptN m f L N B i).1 (ptN m f L N B i).2 f L j q) := by
      intro j q hq
      unfold lkP
      rw [eY, (d q (by omega)).1, (d q (by omega)).2.2.1]
    refine ⟨fun q hq => ?_, fun q hq => ?_, fun j hj => ?_⟩
    · rw [k8] at hq
      obtain ⟨d1, d2, d3, d4⟩ := d q (by omega)
      obtain ⟨a, b, c, e⟩ := P1 q hq
      rw [d1, d4]
      by_cases y : q = pjN m f L N B i
      · rw [if_pos y]
        have lq := sp4 z
        refine ⟨⟨fun _ => ⟨m, Nat.le_refl _, by rw [y]; exact self, Or.inr rfl⟩, fun _ => rfl⟩, fun _ => by rw [y]; exact lq.1, c, m, Nat.le_refl _, by rw [y]; exact self⟩
      · rw [if_neg y]
        refine ⟨a.trans ⟨fun ⟨m', x1, x2, x3⟩ => ⟨m', x1, (hs1 m' q y).mpr x2, x3⟩, fun ⟨m', x1, x2, x3⟩ => ⟨m', x1, (hs1 m' q y).mp x2, x3⟩⟩, b, c, ?_⟩
        obtain ⟨m', x1, x2⟩ := e
        exact ⟨m', x1, (hs1 m' q y).mpr x2⟩
    · rw [k8] at hq
      obtain ⟨d1, d2, d3, d4⟩ := d q (by omega)
      obtain ⟨a, b, c⟩ := P2 q hq
      rw [d3, d4, eY]
      refine ⟨?_, b, c⟩
      by_cases y : q = pjN m f L N B i
      · rw [if_pos y]; exact Or.inl rfl
      · rw [if_neg y]
        have e : (ptN m f L N B (i + 1)).1 (4773 + 3 * q) = (ptN m f L N B i).1 (4773 + 3 * q) := by
          have := d4
          rw [if_neg y] at this
          exact this
        refine a.imp id (fun x => ?_)
        unfold isCnt kN at x ⊢
        rw [e]
        exact x
    · by_cases e : j = i
      · rw [e, k8]
        exact ⟨z, (lk i _ z).mpr (sp4 z), fun q hq y => sp3 q (by omega) hq ((lk i q (by omega)).mp y)⟩
      · obtain ⟨p1, p2, p3⟩ := P3 j (by omega)
        rw [k8]
        exact ⟨p1, (lk j _ p1).mpr p2, fun q hq y => p3 q hq ((lk j q (by omega)).mp y)⟩
  · obtain ⟨e0, k8, same, ⟨n1, n2, n3, n4⟩, by1, by2⟩ := pt_new w hm (by omega) h8 l2 z
    have isS : ∀ q, q < kN (ptN m f L N B i).1 8 → isN (ptN m f L N B (i + 1)).1 q = isN (ptN m f L N B i).1 q ∧ deN (ptN m f L N B (i + 1)).1 q = deN (ptN m f L N B i).1 q ∧ (ptN m f L N B (i + 1)).1 (4771 + 3 * q) = (ptN m f L N B i).1 (4771 + 3 * q) := fun q hq => ⟨same _ (by omega) (by omega) (by omega), same _ (by omega) (by omega) (by omega), same _ (by omega) (by omega) (by omega)⟩
    have kl : ∀ q, q < kN (ptN m f L N B i).1 8 → kN (ptN m f L N B (i + 1)).1 (4771 + 3 * q) = kN (ptN m f L N B i).1 (4771 + 3 * q) := fun q hq => by unfold kN; rw [(isS q hq).2.2]
    have yb : ∀ q k, q < kN (ptN m f L N B i).1 8 → k < 200 → (ptN m f L N B (i + 1)).2 (200 * q + k) = (ptN m f L N B i).2 (200 * q + k) := fun q k hq hk => by1 _ (by omega)
    have lk : ∀ j q, j < kC f L → q < kN (ptN m f L N B i).1 8 → (lkP (ptN m f L N B (i + 1)).1 (ptN m f L N B (i + 1)).2 f L j q ↔ lkP (ptN m f L N B i).1 (ptN m f L N B i).2 f L j q) := by
      intro j q hj hq
      have lj := (g2 j hj).2
      unfold lkP
      rw [(isS q hq).1, kl q hq]
      exact ⟨fun y => ⟨y.1, y.2.1, fun k hk => by rw [← yb q k hq (by omega)]; exact y.2.2 k hk⟩, fun y => ⟨y.1, y.2.1, fun k hk => by rw [yb q k hq (by omega)]; exact y.2.2 k hk⟩⟩
    refine ⟨fun q hq => ?_, fun q hq => ?_, fun j hj => ?_⟩
    · by_cases y : q = pjN m f L N B i
      · rw [y]
        exact ⟨⟨fun _ => ⟨m, Nat.le_refl _, self, Or.inr rfl⟩, fun _ => n2⟩, fun _ => n1, Or.inr n1, m, Nat.le_refl _, self⟩
      · have hq' : q < kN (ptN m f L N B i).1 8 := by omega
        obtain ⟨a, b, c, e⟩ := P1 q hq'
        rw [(isS q hq').1, (isS q hq').2.1]
        refine ⟨a.trans ⟨fun ⟨m', x1, x2, x3⟩ => ⟨m', x1, (hs1 m' q y).mpr x2, x3⟩, fun ⟨m', x1, x2, x3⟩ => ⟨m', x1, (hs1 m' q y).mp x2, x3⟩⟩, b, c, ?_⟩
        obtain ⟨m', x1, x2⟩ := e
        exact ⟨m', x1, (hs1 m' q y).mpr x2⟩
    · by_cases y : q = pjN m f L N B i
      · rw [y]
        refine ⟨Or.inl n2, by rw [n4]; exact l1, fun k hk => ?_⟩
        rw [n4] at hk
        rw [e0, by2 k hk]
        have q5 := cC_le (f := f) (L := L) hi
        exact hi8 _ (by unfold lC at hk; omega)
      · have hq' : q < kN (ptN m f L N B i).1 8 := by omega
        obtain ⟨a, b, c⟩ := P2 q hq'
        have wl := (w.2.2 q hq').2
        rw [(isS q hq').2.1, kl q hq']
        refine ⟨a.imp id (fun x => ?_), b, fun k hk => by rw [yb q k hq' (by omega)]; exact c k hk⟩
        have e : (ptN m f L N B (i + 1)).1 (4773 + 3 * q) = (ptN m f L N B i).1 (4773 + 3 * q) := (isS q hq').2.1
        unfold isCnt kN at x ⊢
        rw [e]
        exact x
    · by_cases e : j = i
      · rw [e]
        refine ⟨by omega, ⟨n1, n4, fun k hk => by rw [e0]; exact by2 k hk⟩, fun q hq y => sp3 q (by omega) hq ((lk i q hi (by omega)).mp y)⟩
      · obtain ⟨p1, p2, p3⟩ := P3 j (by omega)
        exact ⟨by omega, (lk j _ (by omega) p1).mpr p2, fun q hq y => p3 q hq ((lk j q (by omega) (by omega)).mp y)⟩
end Pd
