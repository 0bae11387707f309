/-! recover -/
/-- the model's remembering, whatever the call wrote of scratch before -/
theorem mutM {F : Nat} {S S1 U0 : St} {n hh ff : Nat} {Ns Bs : Nat → Nat → Int32} (h : Rel S n) (rc : RC S n hh ff Ns Bs (ai S 198) (ai S 200)) (rm : RM S hh ff Ns Bs (ai S 198) (ai S 200)) (cf : CFr n S S1) (hx1 : FxF S1) (ms : MSc S1 U0) (hF : 100000 ≤ F) :
    ∃ U1, f_X11_remember F U0 197 = some U1 ∧ RM U1 (hN hh) (fN hh ff) (setF Ns (tN hh ff) (ai S 198)) (setF Bs (tN hh ff) (ai S 200)) (ai S 198) (ai S 200) ∧ MFr S1 U1 ∧ FxF U1 ∧ ai U1 198 = ai S 198 ∧ ai U1 200 = ai S 200 ∧ si U1 1000 197 = si U0 1000 197 := by
  have hx2 := ms.1.fx hx1
  have O : ∀ o, (o = 198 ∨ o = 200) → SameO S S1 o := fun o ho => cf.1 o (by have := h.hn; omega) (by omega) (by omega) (by omega) (by omega) (by omega)
  obtain ⟨U1, u1, u2, u3, u4, u5, u6⟩ := ((rm.cfr cf h.hn).ms ms).rem (F := F) hx2 rc.old h.w hF
  exact ⟨U1, u1, u2, ms.1.tr u3, u3.fx hx2, by rw [u4, ms.2.1, (O 198 (by omega)).row], by rw [u5, ms.2.2.1, (O 200 (by omega)).row], u6⟩
/-- the model's side, its net changed -/
theorem RM.net {U T : St} {h f : Nat} {Ns Bs : Nat → Nat → Int32} {N B M C : Nat → Int32} (g : RM U h f Ns Bs N B) (hM : ∀ k, k < 6391 → ai T 198 k = M k) (hC : EqB M C (ai T 200)) (a7 : ai T 207 = ai U 207) (a8 : ai T 208 = ai U 208) (s1 : si T 1026 197 = si U 1026 197) (s2 : si T 1027 197 = si U 1027 197) (s3 : si T 1005 197 = si U 1005 197) (s4 : sr T 1004 197 = sr U 1004 197) : RM T h f Ns Bs M C := by
  obtain ⟨⟨w1, w2, w3⟩, w4, w5, w6, w7⟩ := g
  exact ⟨⟨s1.trans w1, s2.trans w2, by rw [a7, a8]; exact w3⟩, hM, hC, s3.trans w6, s4.trans w7⟩
abbrev hidX (N : Nat → Int32) (x y : Int32) : Prop := 1 ≤ stN N x.toNatClampNeg y.toNatClampNeg ∧ stN N x.toNatClampNeg y.toNatClampNeg ≤ 2
theorem m_recover0 {F : Nat} {S : St} {B : Nat → Int32} (hx : FxF S) (w : WB (ai S 198) B) (x y : Int32) (h : ¬ (isR (ai S 198) x y ∧ hidX (ai S 198) x y)) : f_X11_recover F S 197 x y = some (0, ui S 1000 197 (if ¬ isR (ai S 198) x y then 1 else if ¬ hidX (ai S 198) x y then 2 else 0)) := by
  have b7 := w.n7.2
  have b4 := w.n4.2
  unfold f_X11_recover
  rw [m_isRef hx w, ob_some]
  simp only [lt_eq]
  rw [m_isRef hx w, ob_some]
  simp only [eq_bI]
  by_cases c : isR (ai S 198) x y
  · obtain ⟨m, u, hm, hu, rfl, rfl, -⟩ := isR_of w c
    have c2 : ¬ hidX (ai S 198) (nI m) (nI u) := fun z => h ⟨c, z⟩
    have c3 : ¬ (1 ≤ stN (ai S 198) m u ∧ stN (ai S 198) m u ≤ 2) := by
      unfold hidX at c2
      rw [nI_clamp (by omega), nI_clamp (by omega)] at c2
      exact c2
    rw [if_pos c, m_isHidden hx (by omega) (by omega), ob_some]
    simp only [lt_eq, eq_bI]
    rw [if_neg c3]
    unfold f_X11_recover_L30
    rw [show f_X11_passes2 F S 197 (bI (isR (ai S 198) (nI m) (nI u))) 0 = some (bI (isR (ai S 198) (nI m) (nI u) ∧ False), ui S 1000 197 (if ¬ isR (ai S 198) (nI m) (nI u) then 1 else if ¬ False then 2 else 0)) from e_passes2 F S _ False, ob_some]
    simp only [lt_eq, ne_bI]
    rw [if_neg (show ¬ (isR (ai S 198) (nI m) (nI u) ∧ False) from fun z => z.2), if_neg (show ¬ ¬ isR (ai S 198) (nI m) (nI u) from fun z => z c), if_neg (show ¬ ¬ isR (ai S 198) (nI m) (nI u) from fun z => z c), if_pos (show ¬ False from fun z => z), if_pos c2]
  · rw [if_neg c]
    unfold f_X11_recover_L25 f_X11_recover_L30
    rw [show f_X11_passes2 F S 197 (bI (isR (ai S 198) x y)) 1 = some (bI (isR (ai S 198) x y ∧ True), ui S 1000 197 (if ¬ isR (ai S 198) x y then 1 else if ¬ True then 2 else 0)) from e_passes2 F S _ True, ob_some]
    simp only [lt_eq, ne_bI]
    rw [if_neg (show ¬ (isR (ai S 198) x y ∧ True) from fun z => c z.1), if_pos (show ¬ isR (ai S 198) x y from c), if_pos (show ¬ isR (ai S 198) x y from c)]
section A
variable {F : Nat} {xs : Nat → Int32} {L : Nat} {S : St} {n : Nat} {i : Int32}
theorem ok_41 (hF : 100000 ≤ F) (h : Rel S n) (hi : ∀ k : Nat, k < 6 → vp_in (i + nI k) L) : Ok (f_law41 F xs L S n 0 197 210 211 i) := by
  have h1 : vp_in (i + 1) L := hi 1 (by omega)
  have h2 : vp_in (i + 2) L := hi 2 (by omega)
  unfold f_law41 f_L_recover
  simp only [cki_t h1, cki_t h2]
  generalize xs (Int32.toNatClampNeg (i + 1)) = x
  generalize xs (Int32.toNatClampNeg (i + 2)) = y
  have b4 := h.w.n4.2
  have b7 := h.w.n7.2
  have hx := h.fx
  by_cases hc : isR (ai S 198) x y ∧ hidX (ai S 198) x y
  rotate_left
  · refine askC h (fm := fun S => f_X11_recover F S 197 x y) (isR (ai S 198) x y) (hidX (ai S 198) x y) 0 4 1 S ?_ (Eqv.rf S) rfl rfl (fun S' h' e => ?_)
    · unfold f_X10_recover
      rw [e_needRef h, ob_some]
      by_cases c1 : isR (ai S 198) x y
      · obtain ⟨m, u, hm, hm2, hu, hu2, rfl, rfl⟩ := ixR h c1
        have c2 : ¬ hidX (ai S 198) (nI m) (nI u) := fun z => hc ⟨c1, z⟩
        have c3 : ¬ (1 ≤ stN (ai S 198) m u ∧ stN (ai S 198) m u ≤ 2) := by
          unfold hidX at c2
          rw [nI_clamp (by omega), nI_clamp (by omega)] at c2
          exact c2
        rw [if_pos c1, if_pos c1, lt_eq, sm_r, hx.r905_0, ob_some, e_isHidden h.c0 hx.sp27 hm hu, ob_some]
        simp only [lt_eq, ne_bI]
        rw [if_neg c3, if_neg c2]
      · rw [if_neg c1, if_neg c1]
        rfl
    · have e1 := m_recover0 (F := F) h'.fx h'.w x y (by rw [e.net]; exact hc)
      rw [e.net] at e1
      exact ⟨_, _, e1, eqv_thr S' _, rfl, rfl, fun p q => absurd ⟨p, q⟩ hc⟩
  · obtain ⟨c1, c2⟩ := hc
    obtain ⟨m, u, hm, hm2, hu, hu2, rfl, rfl⟩ := ixR h c1
    have c3 : 1 ≤ stN (ai S 198) m u ∧ stN (ai S 198) m u ≤ 2 := by
      unfold hidX at c2
      rw [nI_clamp (by omega), nI_clamp (by omega)] at c2
      exact c2
    obtain ⟨hh, ff, Ns, Bs, rc, rm, rx⟩ := h.parts
    obtain ⟨T1, t1, t2, t3, t4, t5, t6, t7⟩ := rc.rem (F := F) (by omega)
    have hx1 := t2.2.1
    have g1 := t2.2.2.2
    obtain ⟨q0, hq0⟩ : ∃ q0, q0 = stN (ai S 198) m u := ⟨_, rfl⟩
    obtain ⟨T2, hT2⟩ : ∃ T2, T2 = uai (uai T1 30 (10 * m + u) 0) 32 (10 * m + u) (ai S 198 2) := ⟨_, rfl⟩
    have fc : f_X10_recover F S 0 (nI m) (nI u) = some (.inr q0, T2) := by
      unfold f_X10_recover
      rw [e_needRef h, ob_some, if_pos c1, lt_eq, sm_r, hx.r905_0, ob_some, e_isHidden h.c0 hx.sp27 hm hu, ob_some]
      simp only [lt_eq, ne_bI]
      rw [if_pos c3, t1, ob_some, hx1.r905_0, ob_some, e_state g1.c0 hx1.sp27 hm (by omega), ob_some]
      simp only [lt_eq]
      rw [hx1.r905_0, ob_some]
      unfold f_X8_bringBack
      rw [hx1.sp27.r707_0, ob_some, show (10 : Int32) = nI 10 from rfl, nI_mul, nI_add, show m * 10 + u = 10 * m + u by omega, e_put _ (by rw [hx1.sp27.l3]; omega) (by rw [hx1.sp27.l3]; omega), ob_some, sr_uai, hx1.sp27.r709_0, ob_some, si_uai, g1.c0.s701, e_put _ (by rw [ln_uai, hx1.sp27.l5]; omega) (by rw [ln_uai, hx1.sp27.l5]; omega), ob_some, ob_some, ← hq0, hT2]
    have O2 : ∀ k, ¬ k = 30 → ¬ k = 32 → SameO T1 T2 k := fun k a b => by rw [hT2]; exact (SameO.uai _ a).tr (SameO.uai _ b)
    have hx2 : FxF T2 := by rw [hT2]; exact hx1.agr (fun _ _ _ _ => rfl) (fun _ _ => rfl) rfl
    obtain ⟨c, hcl, ec⟩ : ∃ c, c < kN (ai S 198) 3 ∧ clN (ai S 198) m u = nI c := by
      obtain ⟨-, -, -, -, w5⟩ := h.w.wR m u hm hu2
      exact ⟨_, (w5 hu).2, (w5 hu).1.1⟩
    obtain ⟨M, hM⟩ : ∃ M, M = updR (ai S 198) m u 0 (nI c) (ai S 198 2) := ⟨_, rfl⟩
    have clT : ∀ k, ai T1 31 k = if k = 10 * m + u then nI c else ai T1 31 k := fun k => by
      by_cases z : k = 10 * m + u
      · rw [if_pos z, z, ← ec]; exact (g1.c0.cf m u hm hu2).2.2 hu
      · rw [if_neg z]
    have rc2 : RC T2 n (hN hh) (fN hh ff) (setF Ns (tN hh ff) (ai S 198)) (setF Bs (tN hh ff) (ai S 200)) M (ai S 200) := by
      refine ⟨t2.1, hx2, t2.2.2.1.agr (Nat.le_refl _) (fun k hk => O2 k (by omega) (by omega)) ((O2 0 (by omega) (by omega)).1 _) ((O2 0 (by omega) (by omega)).1 _), ?_⟩
      rw [hM]
      refine g1.ref (by omega) hm hu (Or.inl rfl) ⟨by have := c3.1; rw [Int32.le_iff_toInt_le] at *; have e1 : (1 : Int32).toInt = 1 := by decide
                                                      have e0 : (0 : Int32).toInt = 0 := by decide
                                                      omega, c3.2⟩ hcl (fun k hk => O2 k (by omega) (by omega)) (fun k => ?_) (fun k => ?_) (fun k => ?_)
      · rw [hT2, ai_uai, if_neg (by omega), ai_uai]
        by_cases z : k = 10 * m + u
        · rw [if_pos ⟨rfl, z⟩, if_pos z]
        · rw [if_neg (fun y => z y.2), if_neg z]
      · rw [(O2 (27 + 4) (by omega) (by omega)).row]
        exact clT k
      · rw [hT2, ai_uai]
        by_cases z : k = 10 * m + u
        · rw [if_pos ⟨rfl, z⟩, if_pos z]
        · rw [if_neg (fun y => z y.2), if_neg z, ai_uai, if_neg (by omega)]
    have cf2 : CFr n S T2 := t3.tr (n' := n) ⟨fun k _ _ hk _ _ _ => O2 k (by omega) (by omega), fun _ _ _ => (O2 0 (by omega) (by omega)).1 _⟩ (Nat.le_refl _)
    obtain ⟨S1, hS1⟩ : ∃ S1, S1 = ual T2 210 0 q0.toInt64 := ⟨_, rfl⟩
    have rc3 := rc2.out 0 q0.toInt64
    have cf3 : CFr n S S1 := by rw [hS1]; exact cf2.tr (n' := n) (CFr.out n T2 0 _) (Nat.le_refl _)
    rw [← hS1] at rc3
    have rx3 := rx.cfr cf3 h.hn
    have hx3 := rc3.2.1
    have n1 : ai S1 198 = ai S 198 := (cf3.1 198 (by have := h.hn; omega) (by omega) (by omega) (by omega) (by omega) (by omega)).row
    have w1 : WB (ai S1 198) (ai S 200) := by rw [n1]; exact h.w
    obtain ⟨U1, u1, u2, m1, hxU, u4, u5, u6⟩ := mutM h rc rm cf3 hx3 (MSc.thr S1 0) hF
    obtain ⟨U2, hU2⟩ : ∃ U2, U2 = uai (uai U1 198 (1171 + 3 * (10 * m + u)) 0) 198 (1173 + 3 * (10 * m + u)) (ai S 198 2) := ⟨_, rfl⟩
    have fm : f_X11_recover F S1 197 (nI m) (nI u) = some (q0, U2) := by
      unfold f_X11_recover
      rw [m_isRef hx3 w1, ob_some]
      simp only [lt_eq]
      rw [m_isRef hx3 w1, ob_some]
      simp only [eq_bI]
      rw [n1, if_pos c1, m_isHidden hx3 hm2 hu2, ob_some, n1]
      simp only [lt_eq, eq_bI]
      rw [if_pos c3]
      unfold f_X11_recover_L25 f_X11_recover_L30
      rw [show f_X11_passes2 F S1 197 (bI (isR (ai S 198) (nI m) (nI u))) 1 = some (bI (isR (ai S 198) (nI m) (nI u) ∧ True), ui S1 1000 197 (if ¬ isR (ai S 198) (nI m) (nI u) then 1 else if ¬ True then 2 else 0)) from e_passes2 F S1 _ True, ob_some]
      simp only [lt_eq, ne_bI]
      rw [if_pos (show isR (ai S 198) (nI m) (nI u) ∧ True from ⟨c1, True.intro⟩), if_neg (show ¬ ¬ isR (ai S 198) (nI m) (nI u) from fun z => z c1), if_neg (show ¬ ¬ True from fun z => z True.intro), u1, ob_some, m_state hxU hm2 hu2, ob_some]
      simp only [lt_eq]
      have hxV : FxF (uai U1 198 (1171 + 3 * (10 * m + u)) 0) := (MFr.uai (0 : Int32) (by omega)).fx hxU
      rw [hxU.r1001_197, ob_some, m_refAt, ob_some, hxU.l198, Int32.add_zero, cki_nI (by omega) (by omega), nI_clamp (by omega), hxV.r1001_197, ob_some, m_refAt, ob_some, hxV.r1001_197, ob_some, hxV.l198, show (2 : Int32) = nI 2 from rfl, nI_add, show 1171 + 3 * (10 * m + u) + 2 = 1173 + 3 * (10 * m + u) by omega, cki_nI (by omega) (by omega), cki_nI (by omega) (by omega), nI_clamp (by omega), nI_clamp (by omega), ai_uai, if_neg (by omega), u4, ← hq0, hU2]
    have ne : ∀ o, ¬ o = 198 → ai U2 o = ai U1 o := fun o ho => by rw [hU2]; exact ((SameO.uai _ ho).tr (SameO.uai _ ho)).row
    have rmU : RM U2 (hN hh) (fN hh ff) (setF Ns (tN hh ff) (ai S 198)) (setF Bs (tN hh ff) (ai S 200)) M (ai S 200) := by
      refine u2.net (fun k hk => ?_) ?_ (ne 207 (by omega)) (ne 208 (by omega)) (by rw [hU2]; rfl) (by rw [hU2]; rfl) (by rw [hU2]; rfl) (by rw [hU2]; rfl)
      · rw [hU2, hM, ai_uai]
        by_cases z : k = 1173 + 3 * (10 * m + u)
        · rw [if_pos ⟨rfl, z⟩, z, updR_2]
        · rw [if_neg (fun y => z y.2), ai_uai]
          by_cases z2 : k = 1171 + 3 * (10 * m + u)
          · rw [if_pos ⟨rfl, z2⟩, z2, updR_0]
          · rw [if_neg (fun y => z2 y.2), u4]
            by_cases z3 : k = 1172 + 3 * (10 * m + u)
            · rw [z3, updR_1, ← ec]; rfl
            · rw [updR_n z2 z3 z]
      · rw [ne 200 (by omega), u5]; exact EqB.rf _ _
    have mU : MFr S1 U2 := by rw [hU2]; exact (m1.tr (MFr.uai _ (by omega))).tr (MFr.uai _ (by omega))
    refine endM q0 T2 U2 ?_ (fm := fun S => f_X11_recover F S 197 (nI m) (nI u)) (by rw [← hS1]; exact fm) ?_ ?_ (Rel.of (rc3.mfr mU) rmU (rx3.mfr mU))
    · rw [fc, ob_some]
      simp only [lt_eq, sm_r]
      rw [hx2.l210, cki_0 (by omega) (by omega)]
      rfl
    · rw [hU2]
      show si U1 1000 197 = 0
      rw [u6]
      exact th0 _ _
    · rw [← hS1, mU.2.2.2.2.1]
end A
