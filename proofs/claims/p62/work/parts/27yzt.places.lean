/-! the places of a new message, one after another: the class -/
def plG (F p : Nat) (v3 v4 v5 : Int32) (n0 : Nat) : Nat → St → Nat → Option (Int32 × St × Nat)
  | 0 => fun T nT => if si T 103 24 ≤ 0 then f_X8_receive_L600132 F T nT p v3 v4 v5 n0 else plB F (fun S n => f_X8_receive_L126 F S n p 24 v3 v4 v5 n0 0) p n0 T nT 0 v5
  | 1 => fun T nT => f_X8_receive_L126 F T nT p 24 v3 v4 v5 n0 0
  | 2 => fun T nT => f_X8_receive_L100126 F T nT p 24 v3 v4 v5 n0 1
  | 3 => fun T nT => f_X8_receive_L200126 F T nT p 24 v3 v4 v5 n0 2
  | _ => fun T nT => f_X8_receive_L300126 F T nT p 24 v3 v4 v5 n0 3
section Pq3
variable {F : Nat} {S T : St} {f N B : Nat → Int32} {L nT p n0 m : Nat} {v3 v4 : Int32}
theorem plG_s {v5 : Int32} {i : Nat} (hi : i < 4) : plG F p v3 v4 v5 n0 i T nT = if si T 103 24 ≤ nI i then f_X8_receive_L600132 F T nT p v3 v4 v5 n0 else plB F (plG F p v3 v4 v5 n0 (i + 1)) p n0 T nT (nI i) v5 := by
  rcases (by omega : i = 0 ∨ i = 1 ∨ i = 2 ∨ i = 3) with rfl | rfl | rfl | rfl
  · rfl
  · show f_X8_receive_L126 F T nT p 24 v3 v4 v5 n0 0 = _
    unfold f_X8_receive_L126
    rfl
  · show f_X8_receive_L100126 F T nT p 24 v3 v4 v5 n0 1 = _
    unfold f_X8_receive_L100126
    rfl
  · show f_X8_receive_L200126 F T nT p 24 v3 v4 v5 n0 2 = _
    unfold f_X8_receive_L200126
    rfl
theorem plG_4 {v5 : Int32} (h : si T 103 24 ≤ nI 4) : plG F p v3 v4 v5 n0 4 T nT = f_X8_receive_L600132 F T nT p v3 v4 v5 n0 := by
  show f_X8_receive_L300126 F T nT p 24 v3 v4 v5 n0 3 = _
  unfold f_X8_receive_L300126
  rw [lt_eq, show (3 : Int32) + 1 = nI 4 from rfl, if_pos h]
theorem WF.wp (W : WF N B) : Wp N := ⟨W.2.1.2.2.2.2.2.1, W.2.1.2.2.2.2.2.2.1, fun q hq => (W.2.2.2.2.2.2.2.2 q hq).1⟩
theorem PF.base (W : WF N B) (k7 : kN N 7 = m) (pj : Nat → Nat) : PF m f L N N B pj 0 := by
  have hh : ∀ m' q, hsI N pj m 0 m' q ↔ m' < m ∧ hasN N m' q := fun m' q => by
    unfold hsI
    exact ⟨fun y => by rcases y with y | ⟨-, j, j1, -⟩; exact y; omega, fun y => Or.inl y⟩
  refine ⟨fun q hq => ?_, fun q hq => ?_, fun j hj => by omega⟩
  · obtain ⟨w1, w2, w3, w4, w5, w6, w7, w8⟩ := W.2.2.2.2.2.2.2.2 q hq
    rw [k7] at w5 w7
    refine ⟨w5.trans ⟨fun ⟨m', a, b, c⟩ => ⟨m', by omega, (hh m' q).mpr ⟨a, b⟩, Or.inl ⟨a, c⟩⟩, fun ⟨m', a, b, c⟩ => ?_⟩, w6, w3, ?_⟩
    · obtain ⟨b1, b2⟩ := (hh m' q).mp b
      rcases c with c | c
      · exact ⟨m', b1, b2, c.2⟩
      · omega
    · obtain ⟨m', a, b⟩ := w7
      exact ⟨m', by omega, (hh m' q).mpr ⟨a, b⟩⟩
  · obtain ⟨w1, w2, w3, w4, w5, w6, w7, w8⟩ := W.2.2.2.2.2.2.2.2 q hq
    exact ⟨w4, w2, w8⟩
theorem Pq.base (hp : p = 27) (W : WF N B) (k7 : kN N 7 = m) (pj : Nat → Nat) (P : Pt S n0 p N B) (cp : CP S n0 p N B) (cj : CJ S p N) (hn : 197 ≤ n0) (e : ∀ k, k < n0 → SameO S T k) : Pq T p m n0 0 N pj N B T (n0 + 2) := by
  have hh : ∀ m' q, hsI N pj m 0 m' q ↔ m' < m ∧ hasN N m' q := fun m' q => by
    unfold hsI
    exact ⟨fun y => by rcases y with y | ⟨-, j, j1, -⟩; exact y; omega, fun y => Or.inl y⟩
  have e6 := e (p + 6) (by omega)
  have obj : ∀ q, q < kN N 8 → ∃ j, ar S (p + 7) q = some j ∧ 197 ≤ j ∧ j + 2 ≤ n0 := fun q hq => by
    obtain ⟨⟨j, a, b, -⟩, -⟩ := P.2.2 q hq
    exact ⟨j, a, b.1, b.2⟩
  have ar7 : ar T (p + 7) = ar S (p + 7) := (e (p + 7) (by omega)).2.2.2.2.1
  have P1 : Pt T n0 p N B := P.net rfl (e6.1 800) ar7 (fun q hq => by obtain ⟨j, a, b, c⟩ := obj q hq; exact ⟨j, a, e j (by omega), e _ (by omega)⟩) (fun q hq => ⟨rfl, rfl, Or.inl ⟨rfl, by rw [(e (p + 10) (by omega)).row]⟩⟩)
  refine ⟨PqF.rf, Nat.le_refl _, ⟨P1.1, P1.2.1, fun q hq => ?_⟩, fun q hq => ?_, ⟨(e6.1 801).trans cp.1.2.1, (e6.1 802).trans cp.1.2.2⟩, fun q hq => ?_, cj.agr (fun k a b => e k (by omega)), fun j hj => by omega⟩
  · obtain ⟨⟨j, a, b, c⟩, d⟩ := P1.2.2 q hq
    exact ⟨⟨j, a, ⟨b.1, by have := b.2; omega⟩, c⟩, d⟩
  · obtain ⟨j, a, b, c⟩ := obj q hq
    exact ⟨j, by rw [ar7]; exact a, Or.inl c, b, by omega⟩
  · obtain ⟨-, ⟨m', a1, a2, a3, a4⟩, b, -⟩ := cp.2 q hq
    rw [k7] at a1 b
    refine ⟨⟨m', by omega, (hh m' q).mpr ⟨a1, a2⟩, fun m'' h y => a3 m'' h ((hh m'' q).mp y).2, by rw [(e (p + 8) (by omega)).row]; exact a4⟩, ?_⟩
    rw [(e (p + 9) (by omega)).row, b]
    unfold kpC
    rw [cntP_s, pif_f (fun y => by have := ((hh m q).mp y.1).1; omega), Nat.add_zero]
    congr 1
    refine cntP_c (fun k hk => ?_)
    rw [hh]
    unfold kpI
    exact ⟨fun y => ⟨⟨hk, y.1⟩, Or.inl ⟨hk, y.2⟩⟩, fun y => ⟨y.1.2, by rcases y.2 with t | t; exact t.2; omega⟩⟩
theorem e_places (hp : p = 27) (hn : 197 ≤ n0) (hsS : SpF S p) (hxS : FxF S) (hiS : Inp S f L) (hcS : Cut S f L) (hg : gdC f L) (r0 : sr S 303 n0 = some (n0 + 1)) (l0 : ln S (n0 + 1) = kC f L) (d1 : si S 701 p = N 2) (w : Wp N) (ho : ∀ m' q, m' < m → hasN N m' q → q < kN N 8) (hm : m < 120) (h8 : kN N 8 ≤ 4 * m) (hF : 10000 ≤ F) :
    ∀ d i T nT, i + d = kC f L → PF m f L N (ptN m f L N B i).1 (ptN m f L N B i).2 (pjN m f L N B) i → Pq S p m n0 i N (pjN m f L N B) (ptN m f L N B i).1 (ptN m f L N B i).2 T nT →
    ∃ T' nT', plG F p v3 v4 (nI m) n0 i T nT = f_X8_receive_L600132 F T' nT' p v3 v4 (nI m) n0 ∧ PF m f L N (ptN m f L N B (kC f L)).1 (ptN m f L N B (kC f L)).2 (pjN m f L N B) (kC f L) ∧ Pq S p m n0 (kC f L) N (pjN m f L N B) (ptN m f L N B (kC f L)).1 (ptN m f L N B (kC f L)).2 T' nT' := by
  have g1 := hg.1
  intro d
  induction d with
  | zero =>
    intro i T nT hi P I
    have hcT := I.1.cut hp hn hcS
    obtain rfl : i = kC f L := by omega
    refine ⟨T, nT, ?_, P, I⟩
    by_cases z : kC f L < 4
    · rw [plG_s z, hcT.1, if_pos (nI_le (Nat.le_refl _) (by omega))]
    · have e4 : kC f L = 4 := by omega
      rw [show plG F p v3 v4 (nI m) n0 (kC f L) = plG F p v3 v4 (nI m) n0 4 by rw [e4]]
      exact plG_4 (by rw [hcT.1, e4]; exact nI_le (Nat.le_refl _) (by omega))
  | succ d ih =>
    intro i T nT hi P I
    have hcT := I.1.cut hp hn hcS
    obtain ⟨T1, n1, a1, a2⟩ := e_place (F := F) (plG F p v3 v4 (nI m) n0 (i + 1)) hp hn hsS hxS hiS hcS hg r0 l0 d1 w ho hm h8 (by omega) P I hF
    obtain ⟨w1, w2, -, -⟩ := ptN_w (B := B) w hm hg h8 i (by omega)
    have P1 := PF.step (fun x hx => (hiS.2.2 x hx).2) P w1 hm (by omega) hg (by omega)
    obtain ⟨T', nT', b1, b2, b3⟩ := ih (i + 1) T1 n1 (by omega) P1 a2
    refine ⟨T', nT', ?_, b2, b3⟩
    rw [plG_s (by omega), hcT.1, if_neg (nI_ge (by omega) (by omega)), a1, b1]
end Pq3
