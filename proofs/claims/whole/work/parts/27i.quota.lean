/-! setQuota -/
theorem CJ.x {S : St} {p : Nat} {N M : Nat → Int32} (e9 : M 9 = N 9) (eJ : ∀ k, 6211 ≤ k → k < 6391 → M k = N k) (h9 : kN N 9 ≤ 60) (g : CJ S p N) : CJ S p M := by
  have k9 : kN M 9 = kN N 9 := by unfold kN; rw [e9]
  obtain ⟨g1, f, g2, g3, g4⟩ := g
  refine ⟨by rw [e9]; exact g1, f, g2, g3, fun k hk => ?_⟩
  rw [k9] at hk
  rw [eJ (6211 + 3 * k) (by omega) (by omega), eJ (6212 + 3 * k) (by omega) (by omega), eJ (6213 + 3 * k) (by omega) (by omega)]
  exact g4 k hk
theorem upd_e (N : Nat → Int32) (i : Nat) (v : Int32) : upd N i v i = v := by unfold upd; rw [if_pos rfl]
theorem upd_n {N : Nat → Int32} {i k : Nat} {v : Int32} (h : ¬ k = i) : upd N i v k = N k := by unfold upd; rw [if_neg h]
theorem isCnt_nI {N : Nat → Int32} {i v b : Nat} (e : N i = nI v) (h : v ≤ b) (hb : b < 2 ^ 31) : isCnt N i b ∧ kN N i = v := by
  have k : kN N i = v := by unfold kN; rw [e, nI_clamp (by omega)]
  exact ⟨⟨by rw [k]; exact e, by rw [k]; exact h⟩, k⟩
section Qu
variable {N B : Nat → Int32} {S : St} {n p : Nat}
theorem Cl.quota (g : Cl S n p N B) (hp : 27 ≤ p ∧ p + 20 < 212) {u v : Nat} (hu : u < kN N 4) (hv : 1 ≤ v ∧ v ≤ 99999) : Cl (uai S (p + 1) u (nI v)) n p (upd N (84 + 8 * u) (nI v)) B := by
  have C := g.c0
  have w := C.wb
  have b4 := w.n4.2
  have b6 := w.n6.2
  have b7 := w.n7.2
  have b8 := w.n8.2
  have n9 := w.n9
  have hE : EqX (fun k => k = 84 + 8 * u) N (upd N (84 + 8 * u) (nI v)) := fun k _ _ h => upd_n h
  have U : ∀ k, ¬ k = 84 + 8 * u → upd N (84 + 8 * u) (nI v) k = N k := fun k h => upd_n h
  have hX : okX (fun k => k = 84 + 8 * u) := fun k z => by omega
  have hK : ∀ k, ¬ k = 84 + 8 * u → kN (upd N (84 + 8 * u) (nI v)) k = kN N k := fun k h => by unfold kN; rw [U k h]
  have h9 : isCnt (upd N (84 + 8 * u) (nI v)) 9 60 := by unfold isCnt; rw [hK 9 (by omega), U 9 (by omega)]; exact n9
  refine Cl.mk' (Cl0.x hE hX h9 C (fun i hi => SameO.uai _ (by omega)) rfl ⟨rfl, rfl, rfl⟩ ?_ (hE.wH (fun k z => by omega) b6 w.wH) (hE.wR (fun k z => by omega) b7 w.wR) ?_ ?_ ?_ ?_ ?_ ?_ ?_) ((g.cj.agr (fun i i1 i2 => SameO.uai _ (by omega))).x (U 9 (by omega)) (fun k _ _ => U k (by omega)) n9.2) (by rw [hK 2 (by omega)]; exact g.dy)
  · intro c hc
    rw [hK 4 (by omega)] at hc
    obtain ⟨q1, q2, q3, q4⟩ := w.wU c hc
    by_cases z : c = u
    · subst z
      obtain ⟨y1, y2⟩ := isCnt_nI (b := 99999) (upd_e N (84 + 8 * c) (nI v)) hv.2 (by omega)
      refine ⟨hE.cnt (by omega) (by omega) (by omega) q1, by rw [hK _ (by omega), hK 3 (by omega)]; exact q2, y1, by rw [y2]; exact hv.1⟩
    · exact ⟨hE.cnt (by omega) (by omega) (by omega) q1, by rw [hK _ (by omega), hK 3 (by omega)]; exact q2, hE.cnt (by omega) (by omega) (by omega) q3, by rw [hK _ (by omega)]; exact q4⟩
  · intro q hq
    rw [hK 8 (by omega)] at hq
    obtain ⟨q1, q2, q3, q4, q5⟩ := w.wP q hq
    unfold isN deN at *
    rw [hK (4771 + 3 * q) (by omega), U (4772 + 3 * q) (by omega), U (4773 + 3 * q) (by omega), hK (4773 + 3 * q) (by omega), hK 2 (by omega)]
    exact ⟨hE.cnt (by omega) (by omega) (by omega) q1, q2, q3, q4.imp id (fun y => ⟨hE.cnt (by omega) (by omega) (by omega) y.1, y.2⟩), q5⟩
  · intro q hq
    have e1 : deN (upd N (84 + 8 * u) (nI v)) q = deN N q := U _ (by omega)
    have e2 : isN (upd N (84 + 8 * u) (nI v)) q = isN N q := U _ (by omega)
    rw [e1, e2, C.wf.link hq]
    refine ⟨?_, fun y => C.wf.isd hq ((C.wf.link hq).mpr y)⟩
    exact ⟨fun ⟨m, x1, x2, x3⟩ => ⟨m, x1, x2, (hE.kept (fun k z => by omega) (by omega) b4).mpr x3⟩, fun ⟨m, x1, x2, x3⟩ => ⟨m, x1, x2, (hE.kept (fun k z => by omega) (by omega) b4).mp x3⟩⟩
  · obtain ⟨act, a1, a2, a3⟩ := C.ac
    refine ⟨act, a1, a2, fun x hx => ?_⟩
    rw [U (208 + 21 * x) (by omega)]
    exact a3 x hx
  · intro c hc
    rw [ai_uai]
    by_cases z : c = u
    · subst z; rw [if_pos ⟨rfl, rfl⟩, upd_e]
    · rw [if_neg (fun y => z y.2), U _ (by omega)]
      exact C.qu c hc
  · intro m x hm hx
    have ne : ∀ k, ¬ k = p + 1 → ai (uai S (p + 1) u (nI v)) k = ai S k := fun k hk => (SameO.uai (nI v) hk).2.2.1
    rw [ne (p + 3) (by omega), ne (p + 5) (by omega), ne (p + 4) (by omega), hE.st (fun k z => by omega) (by omega) hx, hE.en (fun k z => by omega) (by omega) hx, hE.cl (fun k z => by omega) (by omega) hx]
    exact C.cf m x hm hx
  · refine ⟨rfl, ?_⟩
    rw [cntP_c (P := fun q => isN (upd N (84 + 8 * u) (nI v)) q = 1) (Q := fun q => isN N q = 1) (fun k hk => by rw [hE.is (fun k z => by omega) (by omega)]), cntP_c (P := fun q => isN (upd N (84 + 8 * u) (nI v)) q = 1 ∧ ¬ deN (upd N (84 + 8 * u) (nI v)) q = -1) (Q := fun q => isN N q = 1 ∧ ¬ deN N q = -1) (fun k hk => by rw [hE.is (fun k z => by omega) (by omega), hE.de (fun k z => by omega) (by omega)])]
    exact C.cp.1.2
  · intro q hq
    have ne : ∀ k, ¬ k = p + 1 → ai (uai S (p + 1) u (nI v)) k = ai S k := fun k hk => (SameO.uai (nI v) hk).2.2.1
    have cc := C.cp.2 q hq
    rw [ne (p + 9) (by omega), ne (p + 10) (by omega), hE.is (fun k z => by omega) (by omega), hE.de (fun k z => by omega) (by omega), cntP_c (P := fun m => hasN N m q ∧ keptN (upd N (84 + 8 * u) (nI v)) m) (Q := fun m => hasN N m q ∧ keptN N m) (fun k hk => by rw [hE.kept (fun k z => by omega) (by omega) b4])]
    exact ⟨cc.2.2.1, cc.2.2.2⟩
end Qu
theorem RC.old {S : St} {n h f : Nat} {Ns Bs : Nat → Nat → Int32} {N B : Nat → Int32} (c : RC S n h f Ns Bs N B) : h ≤ 6 ∧ f < 6 ∧ ∀ i, i < h → WB (Ns ((f + i) % 6)) (Bs ((f + i) % 6)) := ⟨c.2.2.1.1, c.2.2.1.2.1, fun i hi => (c.2.2.1.2.2.2.2 i hi).c0.wb⟩
section A
variable {F : Nat} {xs : Nat → Int32} {L : Nat} {S : St} {n : Nat} {i : Int32}
theorem SameO.row {S T : St} {i : Nat} (h : SameO S T i) : ai T i = ai S i := h.2.2.1
theorem ok_45 (hF : 100000 ≤ F) (h : Rel S n) (hi : ∀ k : Nat, k < 6 → vp_in (i + nI k) L) : Ok (f_law45 F xs L S n 0 197 210 211 i) := by
  have h1 : vp_in (i + 1) L := hi 1 (by omega)
  have h2 : vp_in (i + 2) L := hi 2 (by omega)
  unfold f_law45 f_L_setQuota
  simp only [cki_t h1, cki_t h2]
  generalize xs (Int32.toNatClampNeg (i + 1)) = x
  generalize xs (Int32.toNatClampNeg (i + 2)) = y
  have b4 := h.w.n4.2
  have hx := h.fx
  -- a quota that stays, or a call that is refused
  by_cases hc : (0 ≤ x ∧ x < ai S 198 4) ∧ (1 ≤ y ∧ y ≤ 99999) ∧ ¬ ai S 198 (84 + 8 * x.toNatClampNeg) = y
  rotate_left
  · refine askC h (fm := fun S => f_X11_setQuota F S 197 x y) (0 ≤ x ∧ x < ai S 198 4) (1 ≤ y ∧ y ≤ 99999) (ai S 198 (84 + 8 * x.toNatClampNeg)) 4 2 S ?_ (Eqv.rf S) rfl rfl (fun S' h' e => ?_)
    · unfold f_X10_setQuota f_X10_setQuota_L17
      rw [e_needUser h, ob_some]
      by_cases c1 : 0 ≤ x ∧ x < ai S 198 4
      · obtain ⟨u, hu, hu2, rfl⟩ := ixU h c1
        rw [if_pos c1, if_pos c1, lt_eq, sm_r, nI_clamp (by omega)]
        rw [nI_clamp (by omega)] at hc
        by_cases c2 : y < 1
        · rw [if_pos c2, if_neg (fun z => (le_nlt.mp z.1) c2)]
        rw [if_neg c2]
        by_cases c3 : y ≤ 99999
        · rw [if_pos c3, if_pos ⟨le_nlt.mpr c2, c3⟩, hx.r905_0, ob_some, hx.sp27.r704_0, ob_some, e_at (by rw [hx.sp27.l1]; omega) (by rw [hx.sp27.l1]; omega), ob_some, h.c0.qu u hu]
          simp only [lt_eq]
          rw [if_pos (Classical.not_not.mp (fun z => hc ⟨c1, ⟨le_nlt.mpr c2, c3⟩, z⟩))]
        · rw [if_neg c3, if_neg (fun z => c3 z.2)]
      · rw [if_neg c1, if_neg c1]
        rfl
    · refine mdl2n (F := F) h' (0 ≤ x ∧ x < ai S 198 4) (1 ≤ y ∧ y ≤ 99999) _ (chk := f_X11_isUser F S' 197 x) (chk2 := fun S2 => f_X11_in F S2 y.toInt64 1 99999) rfl (by rw [e_isUser h', e.net]) (e_in F S' y 1 99999) (fun c1 c2 T ht hxT w => noW ?_)
      obtain ⟨u, hu, hu2, rfl⟩ := ixU h c1
      rw [nI_clamp (by omega)] at hc ⊢
      have aT : ai T 198 = ai S 198 := by rw [ht, e.net]
      have z : ai S 198 (84 + 8 * u) = y := Classical.not_not.mp (fun z => hc ⟨c1, c2, z⟩)
      have e84 : ai T 198 (83 + 8 * u + 1) = y := by rw [aT, show 83 + 8 * u + 1 = 84 + 8 * u by omega]; exact z
      rw [hxT.r1001_197, ob_some, hxT.l198, show (83 : Int32) = nI 83 from rfl, show (8 : Int32) = nI 8 from rfl, nI_mul, nI_add, nI_1, cki_nI (by omega) (by omega), nI_clamp (by omega), e84, lt_eq, if_neg (fun q => q rfl), z]
  · obtain ⟨c1, c2, c3⟩ := hc
    obtain ⟨u, hu, hu2, rfl⟩ := ixU h c1
    rw [nI_clamp (by omega)] at c3
    obtain ⟨v, hv, rfl⟩ := nI_of (x := y) (fun z => by
      have := c2.1
      rw [Int32.le_iff_toInt_le] at this
      rw [Int32.lt_iff_toInt_lt] at z
      have e1 : (1 : Int32).toInt = 1 := by decide
      have e0 : (0 : Int32).toInt = 0 := by decide
      omega)
    have v1 : 1 ≤ v := (nI_leI (a := 1) (by omega) hv).mp c2.1
    have v2 : v ≤ 99999 := (nI_leI (b := 99999) hv (by omega)).mp c2.2
    obtain ⟨hh, ff, Ns, Bs, rc, rm, rx⟩ := h.parts
    obtain ⟨T1, t1, t2, t3, t4, t5, t6, t7⟩ := rc.rem (F := F) (by omega)
    obtain ⟨q0, hq0⟩ : ∃ q0, q0 = ai S 198 (84 + 8 * u) := ⟨_, rfl⟩
    have fc : f_X10_setQuota F S 0 (nI u) (nI v) = some (.inr q0, uai T1 28 u (nI v)) := by
      unfold f_X10_setQuota
      rw [e_needUser h, ob_some, if_pos c1, lt_eq, sm_r, if_neg (fun z => (le_nlt.mp c2.1) z), if_pos c2.2, hx.r905_0, ob_some, hx.sp27.r704_0, ob_some, e_at (by rw [hx.sp27.l1]; omega) (by rw [hx.sp27.l1]; omega), ob_some, h.c0.qu u hu]
      simp only [lt_eq]
      rw [if_neg c3, t1, ob_some, t2.2.1.r905_0, ob_some, t2.2.1.sp27.r704_0, ob_some, e_put _ (by rw [t2.2.1.sp27.l1]; omega) (by rw [t2.2.1.sp27.l1]; omega), ob_some, ← hq0]
    obtain ⟨T2, hT2⟩ : ∃ T2, T2 = uai T1 28 u (nI v) := ⟨_, rfl⟩
    have rc2 : RC T2 n (hN hh) (fN hh ff) (setF Ns (tN hh ff) (ai S 198)) (setF Bs (tN hh ff) (ai S 200)) (upd (ai S 198) (84 + 8 * u) (nI v)) (ai S 200) := by
      rw [hT2]
      exact ⟨t2.1, t2.2.1.agr (fun _ _ _ _ => rfl) (fun _ _ => rfl) rfl, t2.2.2.1.agr (Nat.le_refl _) (fun k hk => SameO.uai _ (by omega)) rfl rfl, t2.2.2.2.quota (by omega) hu ⟨v1, v2⟩⟩
    have cf2 : CFr n S T2 := t3.tr (n' := n) (by rw [hT2]; exact ⟨fun k _ _ hk _ _ _ => SameO.uai _ (by omega), fun _ _ _ => rfl⟩) (Nat.le_refl _)
    obtain ⟨S1, hS1⟩ : ∃ S1, S1 = ual T2 210 0 q0.toInt64 := ⟨_, rfl⟩
    have rc3 := rc2.out 0 q0.toInt64
    have cf3 : CFr n S S1 := by rw [hS1]; exact cf2.tr (n' := n) (CFr.out n T2 0 _) (Nat.le_refl _)
    rw [← hS1] at rc3
    have rm3 := rm.cfr cf3 h.hn
    have rx3 := rx.cfr cf3 h.hn
    have n1 : ai S1 198 = ai S 198 := (cf3.1 198 (by have := h.hn; omega) (by omega) (by omega) (by omega) (by omega) (by omega)).2.2.1
    have hx1 := rc3.2.1
    -- the model
    have us : f_X11_isUser F S1 197 (nI u) = some (bI (0 ≤ nI u ∧ nI u < ai S 198 4), S1) := by
      unfold f_X11_isUser
      rw [hx1.r1001_197, ob_some, hx1.l198, show (4 : Int32) = nI 4 from rfl, cki_nI (by omega) (by omega), nI_clamp (by omega), n1, h.w.n4.1, e_in0 F S1 (nI u) (by omega), ob_some]
      simp only [lt_eq]
      rw [ck_t (bI01 _)]
    have ms := MSc.thr S1 0
    have hx2 := ms.1.fx hx1
    obtain ⟨U1, u1, u2, u3, u4, u5, u6⟩ := (rm3.ms ms).rem (F := F) hx2 rc.old h.w hF
    have hxU := u3.fx hx2
    have m1 : MFr S1 U1 := ms.1.tr u3
    have U198 : ai U1 198 = ai S 198 := u4.trans n1
    have fm : f_X11_setQuota F S1 197 (nI u) (nI v) = some (q0, uai U1 198 (84 + 8 * u) (nI v)) := by
      have e84 : ai (ui S1 1000 197 0) 198 (83 + 8 * u + 1) = q0 := by rw [ai_ui, n1, show 83 + 8 * u + 1 = 84 + 8 * u by omega, hq0]
      unfold f_X11_setQuota
      rw [us, ob_some]
      simp only [lt_eq]
      rw [show f_X11_in F S1 (nI v).toInt64 1 99999 = some (bI (1 ≤ nI v ∧ nI v ≤ 99999), S1) from e_in F S1 (nI v) 1 99999, ob_some]
      simp only [lt_eq]
      rw [e_passes2, ob_some]
      simp only [ne_bI, if_pos (show (0 ≤ nI u ∧ nI u < ai S 198 4) ∧ (1 ≤ nI v ∧ nI v ≤ 99999) from ⟨c1, c2⟩), if_neg (show ¬ ¬ (0 ≤ nI u ∧ nI u < ai S 198 4) from fun z => z c1), if_neg (show ¬ ¬ (1 ≤ nI v ∧ nI v ≤ 99999) from fun z => z c2)]
      rw [hx2.r1001_197, ob_some, hx2.l198, show (83 : Int32) = nI 83 from rfl, show (8 : Int32) = nI 8 from rfl, nI_mul, nI_add, nI_1, cki_nI (by omega) (by omega), nI_clamp (by omega), e84, if_pos (by rw [hq0]; exact c3), u1, ob_some, hxU.r1001_197, ob_some, hxU.l198, cki_nI (by omega) (by omega), show 83 + 8 * u + 1 = 84 + 8 * u by omega]
    have rmU : RM (uai U1 198 (84 + 8 * u) (nI v)) (hN hh) (fN hh ff) (setF Ns (tN hh ff) (ai S 198)) (setF Bs (tN hh ff) (ai S 200)) (upd (ai S 198) (84 + 8 * u) (nI v)) (ai S 200) := by
      obtain ⟨⟨w1, w2, w3⟩, w4, w5, w6, w7⟩ := u2
      have a7 : ai (uai U1 198 (84 + 8 * u) (nI v)) 207 = ai U1 207 := (SameO.uai (nI v) (by omega)).row
      have a8 : ai (uai U1 198 (84 + 8 * u) (nI v)) 208 = ai U1 208 := (SameO.uai (nI v) (by omega)).row
      have a0 : ai (uai U1 198 (84 + 8 * u) (nI v)) 200 = ai U1 200 := (SameO.uai (nI v) (by omega)).row
      refine ⟨⟨w1, w2, by rw [a7, a8]; exact w3⟩, fun k hk => ?_, ?_, w6, w7⟩
      · rw [ai_uai]
        by_cases z : k = 84 + 8 * u
        · subst z; rw [if_pos ⟨rfl, rfl⟩, upd_e]
        · rw [if_neg (fun y => z y.2), upd_n z, U198]
      · rw [a0]
        intro q j hq hj
        have k8 : kN (upd (ai S 198) (84 + 8 * u) (nI v)) 8 = kN (ai S 198) 8 := by unfold kN; rw [upd_n (by omega)]
        have kl : kN (upd (ai S 198) (84 + 8 * u) (nI v)) (4771 + 3 * q) = kN (ai S 198) (4771 + 3 * q) := by unfold kN; rw [upd_n (by omega)]
        rw [k8] at hq
        rw [kl] at hj
        exact w5 q j hq hj
    have mU : MFr S1 (uai U1 198 (84 + 8 * u) (nI v)) := m1.tr (MFr.uai _ (by omega))
    refine endM q0 T2 (uai U1 198 (84 + 8 * u) (nI v)) ?_ (fm := fun S => f_X11_setQuota F S 197 (nI u) (nI v)) (by rw [← hS1]; exact fm) ?_ ?_ (Rel.of (rc3.mfr mU) rmU (rx3.mfr mU))
    · rw [fc, ← hT2, ob_some]
      simp only [lt_eq, sm_r]
      have hxT2 := rc2.2.1
      rw [hxT2.l210, cki_0 (by omega) (by omega)]
      rfl
    · show si U1 1000 197 = 0
      rw [u6]
      exact th0 _ _
    · rw [← hS1]
      show al U1 = al S1
      rw [m1.2.2.2.2.1]
end A
