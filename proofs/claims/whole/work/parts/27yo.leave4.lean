/-! the model: what is due, and one reference leaves -/
theorem dueP_lv {N0 a B : Nat → Int32} {m x D : Nat} (s : lvS N0 m x a) (w : WB N0 B) (hm : m < kN N0 7) (hu : x < kN N0 4) : dueP a m x D ↔ dueP N0 m x D := by
  have b3 := w.n3.2
  have b4 := w.n4.2
  have b7 := w.n7.2
  have e : ∀ k, k < 4771 → ¬ k = 9 → (k < 1171 ∨ 1171 + 3 * (10 * m + x) ≤ k) → a k = N0 k := fun k h1 h9 h2 => s k (by omega) h9 (by unfold xD; omega) (by omega)
  have ek : ∀ k, k < 4771 → ¬ k = 9 → (k < 1171 ∨ 1171 + 3 * (10 * m + x) ≤ k) → kN a k = kN N0 k := fun k h1 h9 h2 => by unfold kN; rw [e k h1 h9 h2]
  obtain ⟨c1, -⟩ := clK_lt w hm hu
  have ck : clK a m x = clK N0 m x := ek _ (by omega) (by omega) (by omega)
  have e0 : stN a m x = stN N0 m x := e _ (by omega) (by omega) (by omega)
  have nw : newN a m x = newN N0 m x := by
    unfold newN
    rw [ek 7 (by omega) (by omega) (by omega)]
    refine cntP_c (fun m' hm' => ?_)
    have s3 : clN a m x = clN N0 m x := e _ (by omega) (by omega) (by omega)
    by_cases z : m < m'
    · have s1 : stN a m' x = stN N0 m' x := e _ (by omega) (by omega) (by omega)
      have s2 : clN a m' x = clN N0 m' x := e _ (by omega) (by omega) (by omega)
      rw [s1, s2, s3]
    · exact ⟨fun q => absurd q.1 z, fun q => absurd q.1 z⟩
  unfold dueP
  rw [e0, ck, nw, e (11 + 9 * clK N0 m x) (by omega) (by omega) (by omega), ek (12 + 9 * clK N0 m x) (by omega) (by omega) (by omega), ek (1173 + 3 * (10 * m + x)) (by omega) (by omega) (by omega), ek (11 + 9 * clK N0 m x) (by omega) (by omega) (by omega)]
section Ml
variable {F : Nat} {S : St} {B : Nat → Int32} {m x : Nat} {L : (Nat → Int32) → Int32 → Int32 → Nat → Int32} {th : Int32}
theorem cn_left {a : Nat → Int32} {R4 R5 : Nat → Int32} {c : Nat} (h4 : Cn R4 a (kN a 7) 0) (h5 : Cn R5 a m x) (hm : m < kN a 7) (hx : x < kN a 4) (hc : c < 8) (hl : stN a m x = 0) (hcl : clN a m x = nI c) : R4 (8 * x + c) - R5 (8 * x + c) - 1 = nI (newN a m x) := by
  rw [h4 x c hx hc, h5 x c hx hc, vis_x]
  have v0 : vis (kN a 7) 0 x = kN a 7 := by unfold vis; rw [if_neg (by omega)]
  rw [v0, cntP_split (P := fun m' => m' < kN a 7 ∧ lcN a x c m') (Q := fun m' => m' < m) (kN a 7)]
  have e1 : cntP (fun k => k < m ∧ k < kN a 7 ∧ lcN a x c k) (kN a 7) = cntP (fun m' => m' < m ∧ lcN a x c m') (kN a 7) := cntP_c (fun k hk => ⟨fun q => ⟨q.1, q.2.2⟩, fun q => ⟨q.1, hk, q.2⟩⟩)
  have e2 : cntP (fun k => ¬ k < m ∧ k < kN a 7 ∧ lcN a x c k) (kN a 7) = newN a m x + 1 := by
    refine cntP_del (q := m) hm ⟨by omega, hm, hl, hcl⟩ (fun q => by have := q.1; omega) (fun k hk ne => ?_)
    unfold lcN
    rw [hcl]
    exact ⟨fun q => ⟨by omega, q.2.2⟩, fun q => ⟨by omega, hk, q.2⟩⟩
  rw [e1, e2, nI_sub (by omega), show (1 : Int32) = nI 1 from rfl, nI_sub (by omega)]
  exact congrArg nI (by omega)
theorem m_isDue (hx : FxF S) (w : WB (ai S 198) B) (hm : m < kN (ai S 198) 7) (hu : x < kN (ai S 198) 4) (hl : stN (ai S 198) m x = 0) (h4 : Cn (ai S 204) (ai S 198) (kN (ai S 198) 7) 0) (h5 : Cn (ai S 205) (ai S 198) m x) :
    f_X11_isDue F S 197 (nI (1171 + 3 * (10 * m + x))) (nI x) = some (pI (dueP (ai S 198) m x (kN (ai S 198) 2)), S) := by
  have b2 := w.n2.2
  have b3 := w.n3.2
  have b4 := w.n4.2
  have b7 := w.n7.2
  obtain ⟨c1, c2⟩ := clK_lt w hm hu
  obtain ⟨c, hc⟩ : ∃ c, c = clK (ai S 198) m x := ⟨_, rfl⟩
  rw [← hc] at c1 c2
  have left := cn_left h4 h5 hm hu (by omega) hl c2
  have nwb : newN (ai S 198) m x ≤ kN (ai S 198) 7 := cntP_le _ _
  obtain ⟨q1, q2, -⟩ := w.wC _ c1
  have ew := (w.wR m x hm (by omega)).2.2.1
  have ele := (w.wR m x hm (by omega)).2.2.2.1
  have e1 : ai S 198 (1172 + 3 * (10 * m + x)) = nI c := c2
  unfold f_X11_isDue
  rw [hx.r1001_197, ob_some, hx.l198, nI_1, show 1171 + 3 * (10 * m + x) + 1 = 1172 + 3 * (10 * m + x) by omega, cki_nI (by omega) (by omega), nI_clamp (by omega), e1]
  simp only [lt_eq]
  rw [ob_some, hx.l198, show (11 : Int32) = nI 11 from rfl, show (9 : Int32) = nI 9 from rfl, nI_mul, nI_add, Int32.add_zero, cki_nI (by omega) (by omega), nI_clamp (by omega)]
  by_cases z : ai S 198 (11 + 9 * c) = -1
  · rw [if_pos z, pI_f (fun y => y.2.1 (by rw [← hc]; exact z))]
  obtain ⟨y1, y2⟩ := q1.resolve_left z
  have y12 := y1.2
  have q22 := q2.2
  rw [if_neg z, ob_some, hx.l198, show (2 : Int32) = nI 2 from rfl, cki_nI (by omega) (by omega), ob_some, hx.l198, nI_add, show 1171 + 3 * (10 * m + x) + 2 = 1173 + 3 * (10 * m + x) by omega, cki_nI (by omega) (by omega), nI_clamp (by omega), nI_clamp (by omega), y1.1, w.n2.1, ew.1, nI_sub ele]
  by_cases z2 : kN (ai S 198) (11 + 9 * c) ≤ kN (ai S 198) 2 - kN (ai S 198) (1173 + 3 * (10 * m + x))
  · rw [if_pos (nI_le z2 (by omega)), show (8 : Int32) = nI 8 from rfl, nI_mul, nI_add, hx.r1019_197, ob_some, hx.l204, cki_nI (by omega) (by omega), hx.r1020_197, ob_some, hx.l205, cki_nI (by omega) (by omega), ob_some, hx.l198, nI_1, show 11 + 9 * c + 1 = 12 + 9 * c by omega, cki_nI (by omega) (by omega), nI_clamp (by omega), nI_clamp (by omega), q2.1, left]
    by_cases z3 : kN (ai S 198) (12 + 9 * c) ≤ newN (ai S 198) m x
    · rw [if_neg (le_nlt.mp (nI_le z3 (by omega))), pI_t (show dueP (ai S 198) m x (kN (ai S 198) 2) from ⟨hl, by rw [← hc]; exact z, by rw [← hc]; exact z3, by rw [← hc]; omega⟩)]
    · rw [if_pos (nI_lt (by omega) (by omega)), pI_f (fun y => z3 (by have := y.2.2.1; rw [← hc] at this; exact this))]
  · rw [if_neg (fun y => z2 ((nI_leI (by omega) (by omega)).mp y)), pI_f (fun y => z2 (by have := y.2.2.2; rw [← hc] at this; omega))]
theorem lv1_st (hL : isLg L) {a : Nat → Int32} (b8 : kN a 8 ≤ 480) {m' u : Nat} (hm : m' < 120) (hu : u < 10) (hx : x < 10) (ne : ¬ (m' = m ∧ u = x)) : stN (lv1 L a B m x) m' u = stN a m' u ∧ clN (lv1 L a B m x) m' u = clN a m' u :=
  ⟨lv1_lo hL b8 (by omega) (by omega) (by unfold xD; omega) (by omega) (by omega) (by omega), lv1_lo hL b8 (by omega) (by omega) (by unfold xD; omega) (by omega) (by omega) (by omega)⟩
theorem lv1_n (hL : isLg L) {a : Nat → Int32} (b8 : kN a 8 ≤ 480) {k : Nat} (h : k < 1171) (h9 : ¬ k = 9) : lv1 L a B m x k = a k := lv1_lo hL b8 (by omega) h9 (by unfold xD; omega) (by omega) (by omega) (by omega)
theorem lv1_k (hL : isLg L) {a : Nat → Int32} (b8 : kN a 8 ≤ 480) {k : Nat} (h : k < 1171) (h9 : ¬ k = 9) : kN (lv1 L a B m x) k = kN a k := by unfold kN; rw [lv1_n hL b8 h h9]
theorem m_leave (hT : isTh L th) (hx : FxF S) (ht : si S 1005 197 = th) (hB : ai S 200 = B) (w : WB (ai S 198) B) (hm : m < kN (ai S 198) 7) (hu : x < kN (ai S 198) 4) (hl : stN (ai S 198) m x = 0) (h4 : Cn (ai S 204) (ai S 198) (kN (ai S 198) 7) 0) (h5 : Cn (ai S 205) (ai S 198) m x) (hd : ∀ q, hasN (ai S 198) m q → deN (ai S 198) q = -1) (hF : 1000 ≤ F) :
    ∃ T, f_X11_leave F S 197 (nI m) (nI x) (ai S 198 (13 + 9 * clK (ai S 198) m x)) = some T ∧ LvM S T ∧ ai T 198 = lv1 L (ai S 198) B m x ∧ Cn (ai T 204) (lv1 L (ai S 198) B m x) (kN (lv1 L (ai S 198) B m x) 7) 0 ∧ Cn (ai T 205) (lv1 L (ai S 198) B m x) m x := by
  have b3 := w.n3.2
  have b4 := w.n4.2
  have b7 := w.n7.2
  have b8 := w.n8.2
  obtain ⟨a, ha⟩ : ∃ a, a = ai S 198 := ⟨_, rfl⟩
  rw [← ha] at w hm hu hl h4 h5 hd b3 b4 b7 b8
  rw [← ha]
  obtain ⟨c1, c2⟩ := clK_lt w hm hu
  obtain ⟨c, hc⟩ : ∃ c, c = clK a m x := ⟨_, rfl⟩
  rw [← hc] at c1 c2
  rw [← hc]
  have e1 : ai S 198 (1172 + 3 * (10 * m + x)) = nI c := by rw [← ha]; exact c2
  have k4 : kN (lv1 L a B m x) 4 = kN a 4 := lv1_k hT.lg b8 (by omega) (by omega)
  have k7 : kN (lv1 L a B m x) 7 = kN a 7 := lv1_k hT.lg b8 (by omega) (by omega)
  have oth : ∀ m' u, m' < kN a 7 → u < kN a 4 → ¬ (m' = m ∧ u = x) → stN (lv1 L a B m x) m' u = stN a m' u ∧ clN (lv1 L a B m x) m' u = clN a m' u := fun m' u h1 h2 ne => lv1_st hT.lg b8 (by omega) (by omega) (by omega) ne
  have h5' := h5.ch k4 k7 oth
  obtain ⟨S1, hS1⟩ : ∃ S1, S1 = uai S 204 (8 * x + c) (ai S 204 (8 * x + c) - 1) := ⟨_, rfl⟩
  have F1 : LvM S S1 := by rw [hS1]; exact LvM.uai _ (Or.inl rfl)
  have hx1 := F1.fx hx
  have a1 : ai S1 198 = a := by rw [hS1, ai_uaiN _ (by omega), ha]
  have a4 : ai S1 204 = upd (ai S 204) (8 * x + c) (ai S 204 (8 * x + c) - 1) := by rw [hS1, ai_uaiE]
  have a5 : ai S1 205 = ai S 205 := by rw [hS1, ai_uaiN _ (by omega)]
  have aB : ai S1 200 = B := by rw [hS1, ai_uaiN _ (by omega), hB]
  have th1 : si S1 1005 197 = th := by rw [hS1]; exact ht
  unfold f_X11_leave
  rw [hx.r1019_197, ob_some, hx.r1001_197, ob_some, m_refAt, ob_some]
  simp only [lt_eq]
  rw [hx.l198, show (1 : Int32) = nI 1 from rfl, nI_add, show 1171 + 3 * (10 * m + x) + 1 = 1172 + 3 * (10 * m + x) by omega, cki_nI (by omega) (by omega), nI_clamp (by omega), e1, show (8 : Int32) = nI 8 from rfl, nI_mul, nI_add, hx.l204, cki_nI (by omega) (by omega), cki_nI (by omega) (by omega), nI_clamp (by omega), show nI 1 = (1 : Int32) from rfl, ← hS1]
  by_cases z : a (13 + 9 * c) = -1
  · obtain ⟨S0, T, t1, t2, t3, t4⟩ := m_ceases (F := F) (S := S1) (B := B) (L := L) (th := th) hT hx1 th1 (by rw [a1]; exact w) (m := m) (u := x) (by rw [a1]; exact hm) (by rw [a1]; exact hu) (v := 2) (Or.inr (Or.inl rfl)) (by rw [a1]; exact hd) hF
    rw [a1, aB] at t1 t4
    have el : lv1 L a B m x = seN L a m x (if covN a B m x = 0 then 3 else 2) (if covN a B m x = 0 then 4 else 5) := by
      unfold lv1
      rw [← hc, if_pos z]
    have nz : ¬ stN (lv1 L a B m x) m x = 0 := by
      rw [el]
      have : stN (seN L a m x (if covN a B m x = 0 then 3 else 2) (if covN a B m x = 0 then 4 else 5)) m x = (if covN a B m x = 0 then 3 else 2) := (seN_lo hT.lg b8 (by omega) (by omega) (by unfold xD; omega)).trans (upd_e _ _ _)
      rw [this]
      split <;> decide
    refine ⟨T, ?_, (F1.tr t2.lv).tr t3.lv, t4.trans el.symm, ?_, ?_⟩
    · rw [if_neg (fun y => y z), t1, ob_some]
    · rw [t3.row (by omega), t2.2.2.2.2.1 204 (by omega) (by omega), a4]
      exact h4.gone hm hu (by omega) hl c2 nz k4 k7 oth
    · rw [t3.row (by omega), t2.2.2.2.2.1 205 (by omega) (by omega), a5]
      exact h5'
  · obtain ⟨-, -, q3⟩ := w.wC _ c1
    obtain ⟨y1, y2⟩ := q3.resolve_left z
    obtain ⟨d, hdd⟩ : ∃ d, d = kN a (13 + 9 * c) := ⟨_, rfl⟩
    have ed : a (13 + 9 * c) = nI d := by rw [hdd]; exact y1.1
    have dc : d < c := by omega
    obtain ⟨S2, hS2⟩ : ∃ S2, S2 = uai (uai S1 198 (1172 + 3 * (10 * m + x)) (nI d)) 198 (1173 + 3 * (10 * m + x)) (a 2) := ⟨_, rfl⟩
    have F2 : Net S1 S2 := by rw [hS2]; exact (Net.uai _ _).tr (Net.uai _ _)
    have hx2 := F2.lv.fx hx1
    have a2 : ai S2 198 = updR a m x 0 (nI d) (a 2) := by
      rw [hS2, ai_uaiE, ai_uaiE, a1]
      unfold updR
      have : upd a (1171 + 3 * (10 * m + x)) 0 = a := by
        funext k
        by_cases y : k = 1171 + 3 * (10 * m + x)
        · rw [y, upd_e]; exact hl.symm
        · rw [upd_n y]
      rw [this]
    obtain ⟨S3, hS3⟩ : ∃ S3, S3 = uai S2 204 (8 * x + d) (ai S2 204 (8 * x + d) + 1) := ⟨_, rfl⟩
    have F3 : LvM S2 S3 := by rw [hS3]; exact LvM.uai _ (Or.inl rfl)
    have hx3 := F3.fx hx2
    have a3 : ai S3 198 = updR a m x 0 (nI d) (a 2) := by rw [hS3, ai_uaiN _ (by omega), a2]
    have el : lv1 L a B m x = L (updR a m x 0 (nI d) (a 2)) 3 (nI m) := by
      unfold lv1
      rw [← hc, if_neg z, ed]
    have u9 : isCnt (updR a m x 0 (nI d) (a 2)) 9 60 := by
      unfold isCnt kN
      rw [updR_n (by omega) (by omega) (by omega)]
      exact w.n9
    have w3 : WB (ai S3 198) B := by
      rw [a3]
      have hE : EqX (fun k => k = 1171 + 3 * (10 * m + x) ∨ k = 1172 + 3 * (10 * m + x) ∨ k = 1173 + 3 * (10 * m + x)) a (updR a m x 0 (nI d) (a 2)) := fun k _ _ h => updR_n (fun y => h (Or.inl y)) (fun y => h (Or.inr (Or.inl y))) (fun y => h (Or.inr (Or.inr y)))
      have hX : okX (fun k => k = 1171 + 3 * (10 * m + x) ∨ k = 1172 + 3 * (10 * m + x) ∨ k = 1173 + 3 * (10 * m + x)) := fun k z => by omega
      have ek : ∀ k, k < 1171 ∨ 4771 ≤ k → kN (updR a m x 0 (nI d) (a 2)) k = kN a k := fun k h => by unfold kN; rw [updR_n (by omega) (by omega) (by omega)]
      refine wb_x hE hX u9 w (hE.wU (fun k z => by omega) b4 w.wU) (hE.wH (fun k z => by omega) w.n6.2 w.wH) (fun m' u hm' hu' => ?_) (fun q hq => ?_)
      rotate_left
      · rw [ek 8 (by omega)] at hq
        have n : ∀ k, 4771 ≤ k → updR a m x 0 (nI d) (a 2) k = a k := fun k h => updR_n (by omega) (by omega) (by omega)
        have i1 : isN (updR a m x 0 (nI d) (a 2)) q = isN a q := n _ (by omega)
        have i2 : deN (updR a m x 0 (nI d) (a 2)) q = deN a q := n _ (by omega)
        have cc : ∀ k b, 4771 ≤ k → (isCnt (updR a m x 0 (nI d) (a 2)) k b ↔ isCnt a k b) := fun k b h => by unfold isCnt; rw [ek k (Or.inr h), n k h]
        rw [i1, i2, ek (4771 + 3 * q) (by omega), ek 2 (by omega), ek (4773 + 3 * q) (by omega), cc _ _ (by omega), cc _ _ (by omega)]
        exact w.wP q hq
      rw [ek 7 (by omega)] at hm'
      obtain ⟨p1, p2, p3, p4, p5⟩ := w.wR m' u hm' hu'
      rw [ek 4 (by omega), ek 2 (by omega), ek 3 (by omega)]
      by_cases y : m' = m ∧ u = x
      · obtain ⟨y1', y2'⟩ := y
        subst y1' y2'
        have s0 : stN (updR a m' u 0 (nI d) (a 2)) m' u = 0 := updR_0 _ _ _ _ _ _
        obtain ⟨g1, g2⟩ := isCnt_nI (b := 8) (updR_1 a m' u 0 (nI d) (a 2)) (by omega) (by omega)
        obtain ⟨g3, g4⟩ := isCnt_nI (b := 22000) ((updR_2 a m' u 0 (nI d) (a 2)).trans w.n2.1) w.n2.2 (by omega)
        rw [s0, g2, g4]
        exact ⟨Or.inr (Or.inl rfl), fun h => by omega, g3, Nat.le_refl _, fun _ => ⟨g1, by omega⟩⟩
      · have s0 : stN (updR a m x 0 (nI d) (a 2)) m' u = stN a m' u := updR_n (by omega) (by omega) (by omega)
        have s1 : kN (updR a m x 0 (nI d) (a 2)) (1172 + 3 * (10 * m' + u)) = kN a (1172 + 3 * (10 * m' + u)) := by unfold kN; rw [updR_n (by omega) (by omega) (by omega)]
        have s2 : kN (updR a m x 0 (nI d) (a 2)) (1173 + 3 * (10 * m' + u)) = kN a (1173 + 3 * (10 * m' + u)) := by unfold kN; rw [updR_n (by omega) (by omega) (by omega)]
        have s3 : ∀ b, isCnt (updR a m x 0 (nI d) (a 2)) (1172 + 3 * (10 * m' + u)) b ↔ isCnt a (1172 + 3 * (10 * m' + u)) b := fun b => by unfold isCnt; rw [s1, updR_n (by omega) (by omega) (by omega)]
        have s4 : ∀ b, isCnt (updR a m x 0 (nI d) (a 2)) (1173 + 3 * (10 * m' + u)) b ↔ isCnt a (1173 + 3 * (10 * m' + u)) b := fun b => by unfold isCnt; rw [s2, updR_n (by omega) (by omega) (by omega)]
        rw [s0, s1, s2, s3, s4]
        exact ⟨p1, p2, p3, p4, p5⟩
    obtain ⟨T, t1, t2, t3⟩ := m_logL (F := F) (B := B) hT hx3 (F3.1.1.2.2.1 1005 (by omega) |>.trans ((F2.si 1005 197).trans th1)) w3 3 (nI m) hF
    rw [a3, ← el] at t3
    have A4 : ai T 204 = upd (upd (ai S 204) (8 * x + c) (ai S 204 (8 * x + c) - 1)) (8 * x + d) (upd (ai S 204) (8 * x + c) (ai S 204 (8 * x + c) - 1) (8 * x + d) + 1) := by
      rw [t2.row (by omega), hS3, ai_uaiE, F2.row (by omega), a4]
    have A5 : ai T 205 = ai S 205 := by rw [t2.row (by omega), hS3, ai_uaiN _ (by omega), F2.row (by omega), a5]
    have L0 : stN (lv1 L a B m x) m x = 0 := by
      rw [el]
      exact ((hT.lg _ _ _).1 _ (by omega) (by omega)).trans (updR_0 _ _ _ _ _ _)
    have L1 : clN (lv1 L a B m x) m x = nI d := by
      rw [el]
      exact ((hT.lg _ _ _).1 _ (by omega) (by omega)).trans (updR_1 _ _ _ _ _ _)
    refine ⟨T, ?_, ((F1.tr F2.lv).tr F3).tr t2.lv, t3, ?_, ?_⟩
    · rw [if_pos z, ed, m_enter hx1 (by omega) (by omega), ob_some, a1, ← hS2, hx2.r1019_197, ob_some, nI_add, hx2.l204, cki_nI (by omega) (by omega), cki_nI (by omega) (by omega), nI_clamp (by omega), ← hS3, t1, ob_some]
    · rw [A4]
      exact h4.move hm hu (by omega) (by omega) (by omega) hl c2 L0 L1 k4 k7 oth
    · rw [A5]
      exact h5'
end Ml
