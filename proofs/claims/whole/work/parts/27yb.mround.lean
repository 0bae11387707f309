/-! the model's round -/
theorem WB.is {N B : Nat → Int32} (w : WB N B) {q : Nat} (hq : q < 480) : WB (upd N (4772 + 3 * q) 0) B := by
  have b4 := w.n4.2
  have b6 := w.n6.2
  have b7 := w.n7.2
  have b8 := w.n8.2
  have hE : EqX (fun k => k = 4772 + 3 * q) N (upd N (4772 + 3 * q) 0) := fun k _ _ h => upd_n h
  have e : ∀ k, ¬ k = 4772 + 3 * q → upd N (4772 + 3 * q) 0 k = N k := fun k h => upd_n h
  have ek : ∀ k, ¬ k = 4772 + 3 * q → kN (upd N (4772 + 3 * q) 0) k = kN N k := fun k h => by unfold kN; rw [e k h]
  have n9 : isCnt (upd N (4772 + 3 * q) 0) 9 60 := by unfold isCnt; rw [ek 9 (by omega), e 9 (by omega)]; exact w.n9
  refine wb_x hE (fun k z => by omega) n9 w (hE.wU (fun k z => by omega) b4 w.wU) (hE.wH (fun k z => by omega) b6 w.wH) (hE.wR (fun k z => by omega) b7 w.wR) (fun q' hq' => ?_)
  rw [ek 8 (by omega)] at hq'
  obtain ⟨q1, q2, q3, q4, q5⟩ := w.wP q' hq'
  have ed : deN (upd N (4772 + 3 * q) 0) q' = deN N q' := e _ (by omega)
  rw [ed, ek (4771 + 3 * q') (by omega), ek 2 (by omega), ek (4773 + 3 * q') (by omega)]
  refine ⟨hE.cnt (by omega) (by omega) (by omega) q1, q2, ?_, q4.imp id (fun y => ⟨hE.cnt (by omega) (by omega) (by omega) y.1, y.2⟩), q5⟩
  by_cases z : q' = q
  · rw [z]; exact Or.inl (upd_e _ _ _)
  · have ei : isN (upd N (4772 + 3 * q) 0) q' = isN N q' := e _ (by omega)
    rw [ei]; exact q3
section Mr2
variable {F : Nat} {S : St} {B : Nat → Int32} {L : (Nat → Int32) → Int32 → Int32 → Nat → Int32} {th : Int32}
theorem rndN_wb {N : Nat → Int32} (hL : isLg L) (w : WB N B) : ∀ x, x ≤ 480 → WB (rndN L x N).1 B := by
  intro x
  induction x with
  | zero => intro _; exact w
  | succ x ih =>
    intro hx
    rw [rndN_s]
    by_cases z : remP (rndN L x N).1 x
    · rw [pif_t z]; exact WB.lg hL ((ih (by omega)).is (by omega)) _ _
    · rw [pif_f z]; exact ih (by omega)
theorem m_round (hT : isTh L th) (hx : FxF S) (ht : si S 1005 197 = th) (w : WB (ai S 198) B) (hF : 1000 ≤ F) :
    ∃ T, f_X11_round F S 197 = some (nI (rndN L (kN (ai S 198) 8) (ai S 198)).2, T) ∧ Net S T ∧ ai T 198 = L (rndN L (kN (ai S 198) 8) (ai S 198)).1 9 (nI (rndN L (kN (ai S 198) 8) (ai S 198)).2) := by
  have b8 := w.n8.2
  obtain ⟨N, hN⟩ : ∃ N, N = ai S 198 := ⟨_, rfl⟩
  have loop : ∀ d x fu T, x + d = kN N 8 → d < fu → Net S T → ai T 198 = (rndN L x N).1 → ∃ T', f_X11_round_L4 F fu T 197 (nI (rndN L x N).2) (nI x) = some (nI (rndN L (kN N 8) N).2, T') ∧ Net S T' ∧ ai T' 198 = L (rndN L (kN N 8) N).1 9 (nI (rndN L (kN N 8) N).2) := by
    intro d
    induction d with
    | zero =>
      intro x fu T hx' hfu n1 n2
      obtain ⟨fu, rfl⟩ : ∃ f', fu = f' + 1 := ⟨fu - 1, by omega⟩
      have e : x = kN N 8 := by omega
      subst e
      have hxT := n1.mfr.fx hx
      have lo := rndN_lo (L := L) (N := N) hT.lg (kN N 8) (by rw [hN]; omega)
      obtain ⟨V, v1, v2, v3⟩ := m_logL (F := F) (B := B) hT hxT ((n1.si 1005 197).trans ht) (by rw [n2]; exact rndN_wb hT.lg (by rw [hN]; exact w) _ (by rw [hN]; omega)) 9 (nI (rndN L (kN N 8) N).2) hF
      refine ⟨V, ?_, n1.tr v2, by rw [v3, n2]⟩
      unfold f_X11_round_L4
      rw [hxT.r1001_197, ob_some, hxT.l198, show (8 : Int32) = nI 8 from rfl, cki_nI (by omega) (by omega), nI_clamp (by omega), n2, lo 8 (by omega) (by omega) (by unfold xI; omega), hN, w.n8.1, if_pos (nI_le (Nat.le_refl _) (by omega)), ← hN, v1, ob_some]
    | succ d ih =>
      intro x fu T hx' hfu n1 n2
      obtain ⟨fu, rfl⟩ : ∃ f', fu = f' + 1 := ⟨fu - 1, by omega⟩
      have hxT := n1.mfr.fx hx
      have x8 : x < 480 := by rw [hN] at hx'; omega
      have lo := rndN_lo (L := L) (N := N) hT.lg x (by omega)
      have wT : WB (ai T 198) B := by rw [n2]; exact rndN_wb hT.lg (by rw [hN]; exact w) _ (by omega)
      have e8 : ai T 198 8 = nI (kN N 8) := by rw [n2, lo 8 (by omega) (by omega) (by unfold xI; omega), hN]; exact w.n8.1
      have k8 : kN (ai T 198) 8 = kN N 8 := by unfold kN; rw [n2, lo 8 (by omega) (by omega) (by unfold xI; omega)]
      have go : ∀ T2, Net T T2 → ai T2 198 = (rndN L (x + 1) N).1 → ∃ T', f_X11_round_L81 F (fun a0 a1 a2 a3 => f_X11_round_L4 F fu a0 a1 a2 a3) T2 197 (nI (rndN L (x + 1) N).2) (nI x) = some (nI (rndN L (kN N 8) N).2, T') ∧ Net S T' ∧ ai T' 198 = L (rndN L (kN N 8) N).1 9 (nI (rndN L (kN N 8) N).2) := by
        intro T2 y1 y2
        obtain ⟨T', g1, g2⟩ := ih (x + 1) fu T2 (by omega) (by omega) (n1.tr y1) y2
        refine ⟨T', ?_, g2⟩
        unfold f_X11_round_L81
        rw [nI_1, lt_eq]
        exact g1
      unfold f_X11_round_L4
      rw [hxT.r1001_197, ob_some, hxT.l198, show (8 : Int32) = nI 8 from rfl, cki_nI (by omega) (by omega), nI_clamp (by omega), e8, if_neg (nI_ge (by omega) (by rw [hN]; omega)), m_isStored hxT wT (by omega), ob_some]
      simp only [lt_eq, eq_bI]
      by_cases z : isN (ai T 198) x = 1
      rotate_left
      · have er : rndN L (x + 1) N = rndN L x N := by rw [rndN_s, pif_f (fun r => z (by rw [n2]; exact r.1))]
        have g := go T (Net.rf T) (by rw [er]; exact n2)
        rw [er] at g
        rw [if_neg z]
        exact g
      rw [if_pos z, m_isDead hxT x8, ob_some]
      simp only [lt_eq, eq_bI]
      by_cases z2 : ¬ deN (ai T 198) x = -1
      rotate_left
      · have er : rndN L (x + 1) N = rndN L x N := by rw [rndN_s, pif_f (fun r => z2 (by rw [n2]; exact r.2.1))]
        have g := go T (Net.rf T) (by rw [er]; exact n2)
        rw [er] at g
        rw [if_neg z2]
        exact g
      rw [if_pos z2, hxT.r1001_197, ob_some, hxT.l198, show (2 : Int32) = nI 2 from rfl, cki_nI (by omega) (by omega), e_prt hxT (by omega), ob_some]
      simp only [lt_eq]
      rw [hxT.r1001_197, ob_some, hxT.l198, cki_0 (by omega) (by omega), show Int32.toNatClampNeg 0 = 0 from rfl, nI_clamp (by omega), show ai T 198 (4771 + 3 * x + 2) = deN (ai T 198) x by unfold deN; rw [show 4771 + 3 * x + 2 = 4773 + 3 * x by omega]]
      by_cases z3 : ai T 198 0 ≤ ai T 198 2 - deN (ai T 198) x
      · have hr : remP (rndN L x N).1 x := by rw [← n2]; exact ⟨z, z2, z3⟩
        obtain ⟨U, hU⟩ : ∃ U, U = uai T 198 (4772 + 3 * x) 0 := ⟨_, rfl⟩
        have NU : Net T U := by rw [hU]; exact Net.uai _ _
        have uU : ai U 198 = upd (ai T 198) (4772 + 3 * x) 0 := by
          funext k
          rw [hU, ai_uai]
          unfold upd
          by_cases y : k = 4772 + 3 * x
          · rw [if_pos ⟨rfl, y⟩, if_pos y]
          · rw [if_neg (fun q => y q.2), if_neg y]
        obtain ⟨V, v1, v2, v3⟩ := m_logL (F := F) (B := B) hT (NU.mfr.fx hxT) ((NU.si 1005 197).trans ((n1.si 1005 197).trans ht)) (by rw [uU]; exact wT.is x8) 8 (nI x) hF
        have er : rndN L (x + 1) N = (L (upd (rndN L x N).1 (4772 + 3 * x) 0) 8 (nI x), (rndN L x N).2 + 1) := by rw [rndN_s, pif_t hr]
        have g := go V (NU.tr v2) (by rw [er, v3, uU, n2])
        rw [er] at g
        rw [if_pos z3, ob_some, hxT.l198, show (4771 : Int32) = nI 4771 from rfl, show (3 : Int32) = nI 3 from rfl, show (1 : Int32) = nI 1 from rfl, nI_mul, nI_add, nI_add, show 4771 + 3 * x + 1 = 4772 + 3 * x by omega, cki_nI (by omega) (by omega), nI_clamp (by omega), ← hU, show nI 8 = (8 : Int32) from rfl, v1, ob_some, nI_add]
        exact g
      · have er : rndN L (x + 1) N = rndN L x N := by rw [rndN_s, pif_f (fun r => z3 (by rw [n2]; exact r.2.2))]
        have g := go T (Net.rf T) (by rw [er]; exact n2)
        rw [er] at g
        rw [if_neg z3]
        exact g
  unfold f_X11_round
  rw [← hN]
  exact loop (kN N 8) 0 F S (by omega) (by rw [hN]; omega) (Net.rf S) (by rw [rndN_0]; exact hN.symm)
end Mr2
