/-! a place of a new message: found or new -/
def plB (F : Nat) (G : St → Nat → Option (Int32 × St × Nat)) (p n0 : Nat) (T : St) (nT : Nat) (x m : Int32) : Option (Int32 × St × Nat) :=
  Option.bind (sr T 710 p) fun j262 =>
  Option.bind (f_X9_numberFor F T nT j262 24 x m) fun z263 => lt z263.1 fun r265 => lt z263.2.1 fun S264 => lt z263.2.2 fun n266 => plT F G p n0 S264 n266 x r265
section Pl3
variable {F : Nat} {S T : St} {f N B : Nat → Int32} {L nT p n0 i m : Nat}
theorem e_place (G : St → Nat → Option (Int32 × St × Nat)) (hp : p = 27) (hn : 197 ≤ n0) (hsS : SpF S p) (hxS : FxF S) (hiS : Inp S f L) (hcS : Cut S f L) (hg : gdC f L) (r0 : sr S 303 n0 = some (n0 + 1)) (l0 : ln S (n0 + 1) = kC f L) (d1 : si S 701 p = N 2) (w : Wp N) (ho : ∀ m' q, m' < m → hasN N m' q → q < kN N 8) (hm : m < 120) (h8 : kN N 8 ≤ 4 * m) (hik : i < kC f L)
    (P : PF m f L N (ptN m f L N B i).1 (ptN m f L N B i).2 (pjN m f L N B) i) (I : Pq S p m n0 i N (pjN m f L N B) (ptN m f L N B i).1 (ptN m f L N B i).2 T nT) (hF : 10000 ≤ F) :
    ∃ T' nT', plB F G p n0 T nT (nI i) (nI m) = G T' nT' ∧ Pq S p m n0 (i + 1) N (pjN m f L N B) (ptN m f L N B (i + 1)).1 (ptN m f L N B (i + 1)).2 T' nT' := by
  have g1 := hg.1
  obtain ⟨l1, l2⟩ := hg.2 i hik
  obtain ⟨w1, w2, w3, w4⟩ := ptN_w (B := B) w hm hg h8 i (by omega)
  obtain ⟨v1, v2, v3, v4⟩ := ptN_w (B := B) w hm hg h8 (i + 1) (by omega)
  have pf := pt_found (B := B) w1 hm (by omega : i < 4)
  have pn := pt_new (B := B) w1 hm (by omega : i < 4) (by omega) l2
  obtain ⟨-, -, -, sp4⟩ := fnd_sp (P := lkP (ptN m f L N B i).1 (ptN m f L N B i).2 f L i) (kN (ptN m f L N B i).1 8) 0
  rw [Nat.zero_add] at sp4
  have sp4' : pjN m f L N B i < kN (ptN m f L N B i).1 8 → lkP (ptN m f L N B i).1 (ptN m f L N B i).2 f L i (pjN m f L N B i) := sp4
  have fi := first_iff P (pjN m f L N B i) rfl
  have nb := nbC_le (N := (ptN m f L N B i).1) (B := (ptN m f L N B i).2) (f := f) (L := L) (j := i)
  have epj : pjN m f L N B i = nbC (ptN m f L N B i).1 (ptN m f L N B i).2 f L i := rfl
  obtain ⟨X, hX⟩ : ∃ X, X = (ptN m f L N B i).1 := ⟨_, rfl⟩
  obtain ⟨Y, hY⟩ : ∃ Y, Y = (ptN m f L N B i).2 := ⟨_, rfl⟩
  obtain ⟨X1, hX1⟩ : ∃ X1, X1 = (ptN m f L N B (i + 1)).1 := ⟨_, rfl⟩
  obtain ⟨Y1, hY1⟩ : ∃ Y1, Y1 = (ptN m f L N B (i + 1)).2 := ⟨_, rfl⟩
  rw [← hX, ← hY] at P I sp4' nb epj
  rw [← hX] at w1 w2 w3 w4
  rw [← hX1] at v1 v2 v3 v4
  rw [← hX, ← hY, ← hX1, ← hY1] at pf pn
  rw [← hX1, ← hY1]
  clear sp4 hX hY hX1 hY1
  obtain ⟨q0, hq0⟩ : ∃ q0, q0 = pjN m f L N B i := ⟨_, rfl⟩
  rw [← hq0] at pf pn sp4' fi epj
  rw [← epj] at nb
  obtain ⟨i1, i2, i3, i4, ⟨i5, i6⟩, i7, i8, i9⟩ := I
  have hxT := i1.fx hp hn hxS
  have hsT := i1.sp hp hn hsS
  have hiT := i1.inp hp hn hiS
  have hcT := i1.cut hp hn hcS
  have r0T : sr T 303 n0 = some (n0 + 1) := (i1.2.1 _ _ (by omega)).trans r0
  have l0T : ln T (n0 + 1) = kC f L := (i1.2.2 _ (by omega)).trans l0
  have d1T : si T 701 p = N 2 := ((i1.1 p (by omega) (by omega) (by omega) (by omega)).1 701).trans d1
  have b8 : kN X 8 ≤ 480 := w1.1.2
  have pno := e_partNo (F := F) hxT hsT hiT hcT hg i3 hik (by omega)
  unfold plB
  rw [hsT.r710_0, ob_some]
  by_cases z : q0 < kN X 8
  · obtain ⟨k8, eY, d, c1, c2⟩ := pf z
    obtain ⟨is1, -⟩ := sp4' z
    have en : nbI X Y f L i = nI q0 := by unfold nbI; rw [← epj, if_pos z]
    have nf : f_X9_numberFor F T nT (p + 6) 24 (nI i) (nI m) = some (nI q0, T, nT) := by
      unfold f_X9_numberFor
      rw [pno, ob_some]
      simp only [lt_eq]
      rw [if_pos (fun y => ((nbI_n1 b8).mp y) (by rw [← epj]; exact z)), en]
    rw [nf, ob_some]
    simp only [lt_eq]
    have hnf : ¬ fsC f L i → ¬ (isN X q0 = 1 ∧ ¬ deN X q0 = -1) := fun y u => by
      have o : ∃ j, j < i ∧ pjN m f L N B j = q0 := Classical.not_not.mp (fun t => y (fi.mpr t))
      exact u.2 ((P.1 q0 z).1.mpr ⟨m, Nat.le_refl _, hsI_m.mpr o, Or.inr rfl⟩)
    obtain ⟨T', t1, t2, t3, t4, t5, t6, t7, t8, ⟨t9, t10, t11⟩, t12, t13, t14⟩ := e_tail (F := F) G hp hn hsT hxT hiT hcT hg hik i3 i4 z (c := kpC N (pjN m f L N B) m i q0) (by have := kpC_le (N := N) (pj := pjN m f L N B) (m := m) (i := i) (q := q0); omega) (i7 q0 z).2 r0T l0T i8 w1.2.1 (by rw [d1T, w4 2 (by omega) (by omega) (by omega) (by omega)]) hnf hF
    refine ⟨T', nT, t1, ?_⟩
    have eX : X1 = upd (if isN X q0 = 1 ∧ ¬ deN X q0 = -1 then lgN (upd X (4773 + 3 * q0) (-1)) 7 (nI q0) else X) (334 + 7 * m + i) (nI q0) := by
      by_cases u : deN X q0 = -1
      · rw [if_neg (fun y => y.2 u)]; exact c1 u
      · rw [if_pos ⟨is1, u⟩]; exact c2 u
    generalize hX' : (if isN X q0 = 1 ∧ ¬ deN X q0 = -1 then lgN (upd X (4773 + 3 * q0) (-1)) 7 (nI q0) else X) = X' at t4 t12 eX
    have k8' : kN X' 8 = kN X 8 := by rw [← k8, eX]; unfold kN; rw [upd_n (by omega)]
    have ob : ∀ q, q < kN X 8 → ∃ j, ar T' (p + 7) q = some j ∧ (j + 2 ≤ n0 ∨ n0 + 2 ≤ j) ∧ 197 ≤ j ∧ j + 2 ≤ nT := fun q hq => by rw [t5]; exact i4 q hq
    refine ⟨i1.tr t2, i2, ?_, by rw [k8]; exact ob, ⟨?_, ?_⟩, ?_, ?_, ?_⟩
    · rw [eY]
      refine t4.net (by rw [k8', k8]) rfl rfl (fun q hq => ?_) (fun q hq => ⟨?_, ?_, Or.inl ⟨?_, rfl⟩⟩)
      · rw [k8'] at hq
        obtain ⟨j, a, -⟩ := ob q hq
        exact ⟨j, a, SameO.rf _ _, SameO.rf _ _⟩
      · rw [eX]; exact upd_n (by omega)
      · rw [eX]; unfold kN; rw [upd_n (by omega)]
      · rw [eX]; exact upd_n (by omega)
    · rw [t6, i5, k8]
      congr 1
      exact cntP_c (fun q hq => by rw [(d q (by omega)).1])
    · rw [t7, i6, k8]
      by_cases u : isN X q0 = 1 ∧ ¬ deN X q0 = -1
      · rw [if_pos u, cntP_del (P := fun q => isN X q = 1 ∧ ¬ deN X q = -1) (Q := fun q => isN X1 q = 1 ∧ ¬ deN X1 q = -1) z u (fun y => y.2 (by rw [(d q0 (by omega)).2.2.2, if_pos rfl])) (fun q hq ne => by rw [(d q (by omega)).1, (d q (by omega)).2.2.2, if_neg ne])]
        rw [show (1 : Int32) = nI 1 from rfl, nI_sub (by omega), Nat.add_sub_cancel]
      · rw [if_neg u]
        congr 1
        refine cntP_c (fun q hq => ?_)
        rw [(d q (by omega)).1, (d q (by omega)).2.2.2]
        by_cases y : q = q0
        · rw [if_pos y, y]
          exact ⟨fun a => absurd a u, fun a => absurd rfl a.2⟩
        · rw [if_neg y]
    · rw [k8]
      intro q hq
      refine ⟨by rw [t8]; exact (i7 q hq).1.up, ?_⟩
      by_cases y : q = q0
      · rw [y]
        by_cases o : fsC f L i
        · rw [kpC_new hq0.symm (fi.mp o)]; exact t9 o
        · rw [kpC_old (Classical.not_not.mp (fun t => o (fi.mpr t)))]; exact t10 o
      · rw [kpC_ne (by rw [← hq0]; exact y), t11 q y]; exact (i7 q hq).2
    · refine t12.x (by rw [eX, upd_n (by omega)]) (fun k a b => by rw [eX, upd_n (by omega)]) ?_
      have : kN X1 9 ≤ 60 := v1.2.1.2
      have e : kN X1 9 = kN X' 9 := by rw [eX]; unfold kN; rw [upd_n (by omega)]
      omega
    · intro j hj
      by_cases y : j = i
      · rw [y, ← hq0]; exact t13
      · rw [t14 j y]; exact i9 j (by omega)
  · obtain ⟨e0, k8, same, ⟨n1, n2, n3, n4⟩, by1, by2⟩ := pn z
    have h480 : kN X 8 < 480 := by omega
    have o1 : fsC f L i := fi.mpr (fun ⟨j, a, b⟩ => by have := (P.2.2 j a).1; omega)
    have no : ¬ ∃ j, j < i ∧ pjN m f L N B j = q0 := fi.mp o1
    obtain ⟨Tc, a1, a2, a3, a4, a5, a6⟩ := e_copyOf (F := F) (n := nT) hiT hxT hcT hg (by omega) hik hF
    obtain ⟨Q, hQ⟩ : ∃ Q, Q = kN X 8 := ⟨_, rfl⟩
    rw [← hQ] at k8 same by1 by2 h480 e0 z b8 i4 i5 i6 i7
    have sc : ∀ k, k < nT → SameO T Tc k := fun k h => a2 k (by omega) (by omega)
    obtain ⟨U, hU⟩ : ∃ U, U = uai (uai (uai (uar Tc (p + 7) Q (some nT)) (p + 8) Q (nI m)) (p + 9) Q 0) (p + 10) Q (-1) := ⟨_, rfl⟩
    obtain ⟨Tn, hTn⟩ : ∃ Tn, Tn = ui (ui U 800 (p + 6) (nI (Q + 1))) 801 (p + 6) (nI (cntP (fun q => isN X q = 1) Q + 1)) := ⟨_, rfl⟩
    have sU : ∀ k, ¬ (p + 7 ≤ k ∧ k ≤ p + 10) → SameO Tc U k := fun k h => by rw [hU]; exact (((SameO.uar _ (by omega)).tr (SameO.uai _ (by omega))).tr (SameO.uai _ (by omega))).tr (SameO.uai _ (by omega))
    have sn : ∀ k, k < nT → ¬ (p + 6 ≤ k ∧ k ≤ p + 10) → SameO T Tn k := fun k h h' => by rw [hTn]; exact (((sc k h).tr (sU k (by omega))).tr (SameO.ui _ (by omega))).tr (SameO.ui _ (by omega))
    have srn : ∀ g k, k < nT → sr Tn g k = sr T g k := fun g k h => by
      have : sr Tn g k = sr Tc g k := by rw [hTn, hU]; rfl
      rw [this]; exact (sc k h).2.1 g
    have lnn : ∀ k, k < nT → ln Tn k = ln T k := fun k h => by
      have : ln Tn k = ln Tc k := by rw [hTn, hU]; rfl
      rw [this]; exact (sc k h).2.2.2.2.2
    have siU : si U 800 (p + 6) = nI Q ∧ si U 801 (p + 6) = nI (cntP (fun q => isN X q = 1) Q) ∧ si U 802 (p + 6) = nI (cntP (fun q => isN X q = 1 ∧ ¬ deN X q = -1) Q) := by
      rw [(sU (p + 6) (by omega)).1, (sU (p + 6) (by omega)).1, (sU (p + 6) (by omega)).1, (sc (p + 6) (by omega)).1, (sc (p + 6) (by omega)).1, (sc (p + 6) (by omega)).1]
      exact ⟨by rw [hQ]; exact i3.1, i5, i6⟩
    have fn : PqF p n0 T Tn := ⟨fun k a b c d => sn k (by omega) b, fun g k a => srn g k (by omega), fun k a => lnn k (by omega)⟩
    have hxn := fn.fx hp hn hxT
    have hsn := fn.sp hp hn hsT
    have lT : ∀ k, k < nT → ln Tc k = ln T k := fun k h => (sc k h).2.2.2.2.2
    have srT : ∀ g k, k < nT → sr Tc g k = sr T g k := fun g k h => (sc k h).2.1 g
    have nf : f_X9_numberFor F T nT (p + 6) 24 (nI i) (nI m) = some (nI q0, Tn, nT + 2) := by
      have h8T : si T 800 (p + 6) = nI Q := by rw [hQ]; exact i3.1
      have b7 : ln Tc (p + 7) = 480 := by rw [lT _ (by omega)]; exact hsT.l7
      unfold f_X9_numberFor
      rw [pno, ob_some]
      simp only [lt_eq]
      rw [if_neg (fun y => y ((nbI_n1 (by omega)).mpr (by rw [← epj, ← hQ]; exact z))), hsT.r803_6, ob_some, h8T, hsT.l7, if_pos (show nI Q < nI 480 from nI_lt h480 (by omega))]
      rw [if_neg (nI_pos (by omega)), ob_some, a1, ob_some]
      simp only [lt_eq]
      rw [ob_some, b7, cki_nI h480 (by omega), nI_clamp (by omega)]
      unfold f_X9_numberFor_L52
      have q804 : sr (uar Tc (p + 7) Q (some nT)) 804 (p + 6) = some (p + 8) := (srT _ _ (by omega)).trans hsT.r804_6
      have l8 : ln (uar Tc (p + 7) Q (some nT)) (p + 8) = 480 := (lT _ (by omega)).trans hsT.l8
      rw [q804, ob_some, e_put _ (by rw [l8]; exact h480) (by rw [l8]; omega), ob_some]
      have q805 : sr (uai (uar Tc (p + 7) Q (some nT)) (p + 8) Q (nI m)) 805 (p + 6) = some (p + 9) := (srT _ _ (by omega)).trans hsT.r805_6
      have l9 : ln (uai (uar Tc (p + 7) Q (some nT)) (p + 8) Q (nI m)) (p + 9) = 480 := (lT _ (by omega)).trans hsT.l9
      rw [q805, ob_some, e_put _ (by rw [l9]; exact h480) (by rw [l9]; omega), ob_some]
      have q806 : sr (uai (uai (uar Tc (p + 7) Q (some nT)) (p + 8) Q (nI m)) (p + 9) Q 0) 806 (p + 6) = some (p + 10) := (srT _ _ (by omega)).trans hsT.r806_6
      have l10 : ln (uai (uai (uar Tc (p + 7) Q (some nT)) (p + 8) Q (nI m)) (p + 9) Q 0) (p + 10) = 480 := (lT _ (by omega)).trans hsT.l10
      rw [q806, ob_some, e_put _ (by rw [l10]; exact h480) (by rw [l10]; omega), ob_some, ← hU, siU.1]
      simp only [lt_eq]
      have v801 : si (ui U 800 (p + 6) (nI Q + 1)) 801 (p + 6) = nI (cntP (fun q => isN X q = 1) Q) := by rw [si_ui, if_neg (by omega)]; exact siU.2.1
      rw [v801, nI_1, nI_1, ← hTn, e0]
    rw [nf, ob_some]
    simp only [lt_eq]
    have rows : (∀ x, ar Tn (p + 7) x = if x = Q then some nT else ar T (p + 7) x) ∧ (∀ x, ai Tn (p + 8) x = if x = Q then nI m else ai T (p + 8) x) ∧ (∀ x, ai Tn (p + 9) x = if x = Q then 0 else ai T (p + 9) x) ∧ (∀ x, ai Tn (p + 10) x = if x = Q then -1 else ai T (p + 10) x) := by
      have aT : ∀ k, k < nT → ai Tc k = ai T k := fun k h => (sc k h).row
      have arT : ar Tc (p + 7) = ar T (p + 7) := (sc (p + 7) (by omega)).2.2.2.2.1
      rw [hTn, hU]
      refine ⟨fun x => ?_, fun x => ?_, fun x => ?_, fun x => ?_⟩
      · show ar (uar Tc (p + 7) Q (some nT)) (p + 7) x = _
        rw [ar_uar, arT]
        by_cases y : x = Q
        · rw [if_pos ⟨rfl, y⟩, if_pos y]
        · rw [if_neg (fun t => y t.2), if_neg y]
      · rw [ai_ui, ai_ui, ai_uaiN _ (by omega), ai_uaiN _ (by omega), ai_uaiE]
        by_cases y : x = Q
        · rw [if_pos y, y, upd_e]
        · rw [if_neg y, upd_n y]
          show ai Tc (p + 8) x = _
          rw [aT _ (by omega)]
      · rw [ai_ui, ai_ui, ai_uaiN _ (by omega), ai_uaiE]
        by_cases y : x = Q
        · rw [if_pos y, y, upd_e]
        · rw [if_neg y, upd_n y, ai_uaiN _ (by omega)]
          show ai Tc (p + 9) x = _
          rw [aT _ (by omega)]
      · rw [ai_ui, ai_ui, ai_uaiE]
        by_cases y : x = Q
        · rw [if_pos y, y, upd_e]
        · rw [if_neg y, upd_n y, ai_uaiN _ (by omega), ai_uaiN _ (by omega)]
          show ai Tc (p + 10) x = _
          rw [aT _ (by omega)]
    obtain ⟨ro7, ro8, ro9, ro10⟩ := rows
    have oS : ∀ k, nT ≤ k → SameO Tc Tn k := fun k h => by rw [hTn]; exact ((sU k (by omega)).tr (SameO.ui _ (by omega))).tr (SameO.ui _ (by omega))
    have isS : ∀ q, q < Q → isN X1 q = isN X q ∧ deN X1 q = deN X q ∧ X1 (4771 + 3 * q) = X (4771 + 3 * q) := fun q hq => ⟨same _ (by omega) (by omega) (by omega), same _ (by omega) (by omega) (by omega), same _ (by omega) (by omega) (by omega)⟩
    have obn : ∀ q, q < kN X1 8 → ∃ j, ar Tn (p + 7) q = some j ∧ (j + 2 ≤ n0 ∨ n0 + 2 ≤ j) ∧ 197 ≤ j ∧ j + 2 ≤ nT + 2 := by
      intro q hq
      rw [k8] at hq
      rw [ro7]
      by_cases y : q = Q
      · rw [if_pos y]; exact ⟨nT, rfl, Or.inr i2, by omega, by omega⟩
      · rw [if_neg y]
        obtain ⟨j, a, b, c, d⟩ := i4 q (by omega)
        exact ⟨j, a, b, c, by omega⟩
    have Pn : Pt Tn (nT + 2) p X1 Y1 := by
      refine ⟨?_, v1.1.2, fun q hq => ?_⟩
      · rw [hTn, si_ui, if_neg (by omega), si_ui, if_pos ⟨rfl, rfl⟩, k8]
      · rw [k8] at hq
        rw [ro7, ro10]
        by_cases y : q = Q
        · rw [if_pos y, if_pos y, y]
          rw [e0] at n1 n2 n4
          rw [n1, n2, n4, if_pos rfl]
          have q5 := cC_le (f := f) (L := L) hik
          have lj : cC f L i + lC f L i ≤ L := by unfold lC at l1 ⊢; omega
          refine ⟨⟨nT, rfl, ⟨by omega, by omega⟩, ((oS nT (by omega)).2.1 0).trans a3, (oS (nT + 1) (by omega)).2.2.2.2.2.trans a4, ((oS nT (by omega)).1 1).trans a5, fun k hk => ?_⟩, rfl, by decide, fun k hk => ?_, l1, l2⟩
          · rw [(oS (nT + 1) (by omega)).row, a6 k hk, by2 k hk]
          · rw [by2 k hk]; exact (hiS.2.2 _ (by omega)).2
        · rw [if_neg y, if_neg y]
          have hq' : q < Q := by omega
          obtain ⟨⟨j, b1, b2, b3, b4, b5, b6⟩, b7, b8', b9, b10, b11⟩ := i3.2.2 q (by omega)
          obtain ⟨s1, s2, s3⟩ := isS q hq'
          have kl : kN X1 (4771 + 3 * q) = kN X (4771 + 3 * q) := by unfold kN; rw [s3]
          obtain ⟨c1, c2⟩ := b2
          rw [s1, s2, kl]
          refine ⟨⟨j, b1, ⟨c1, by omega⟩, (srn 0 j (by omega)).trans b3, (lnn _ (by omega)).trans b4, ((sn j (by omega) (by omega)).1 1).trans b5, fun k hk => ?_⟩, b7, b8', fun k hk => ?_, b10, b11⟩
          · rw [(sn (j + 1) (by omega) (by omega)).row, b6 k hk, by1 _ (by omega)]
          · rw [by1 _ (by omega)]; exact b9 k hk
    have cjn : CJ Tn p X1 := (i8.agr (fun k a b => sn k (by omega) (by omega))).x (same 9 (by omega) (by omega) (by omega)) (fun k a b => same k (by omega) (by omega) (by omega)) w1.2.1.2
    have nd : ¬ (isN X1 q0 = 1 ∧ ¬ deN X1 q0 = -1) := fun y => y.2 n2
    obtain ⟨T', t1, t2, t3, t4, t5, t6, t7, t8, ⟨t9, t10, t11⟩, t12, t13, t14⟩ := e_tail (F := F) G hp hn hsn hxn (fn.inp hp hn hiT) (fn.cut hp hn hcT) hg hik Pn obn (q := q0) (by omega) (c := 0) (by omega) (by rw [ro9, if_pos e0]; rfl) ((srn _ _ (by omega)).trans r0T) ((lnn _ (by omega)).trans l0T) cjn v1.2.1 (by rw [(sn p (by omega) (by omega)).1, d1T, v4 2 (by omega) (by omega) (by omega) (by omega)]) (fun y => absurd o1 y) hF
    rw [if_neg nd] at t4 t7 t12
    refine ⟨T', nT + 2, t1, (i1.tr fn).tr t2, by omega, t4, fun q hq => by rw [t5]; exact obn q hq, ⟨?_, ?_⟩, ?_, t12, ?_⟩
    · rw [t6, hTn, si_ui, if_pos ⟨rfl, rfl⟩, k8, cntP_s, pif_t (by rw [← e0]; exact n1)]
      congr 2
      exact cntP_c (fun q hq => by rw [(isS q hq).1])
    · rw [t7, hTn, si_ui, if_neg (by omega), si_ui, if_neg (by omega), siU.2.2, k8, cntP_s, pif_f (fun y => y.2 (by rw [← e0]; exact n2)), Nat.add_zero]
      congr 1
      exact cntP_c (fun q hq => by rw [(isS q hq).1, (isS q hq).2.1])
    · rw [k8]
      intro q hq
      by_cases y : q = q0
      · rw [y]
        have none : ∀ m', ¬ (m' < m ∧ hasN N m' q0) := fun m' y => by have := ho m' q0 y.1 y.2; omega
        refine ⟨⟨m, Nat.le_refl _, hsI_m.mpr ⟨i, by omega, hq0.symm⟩, fun m'' h t => none m'' ⟨h, (hsI_lt h).mp t⟩, by rw [t8, ro8, if_pos e0]⟩, ?_⟩
        rw [t9 o1, kpC_new hq0.symm no]
        congr 2
        refine (cntP_z.mpr (fun k hk t => ?_)).symm
        rcases Nat.lt_or_ge k m with h | h
        · exact none k ⟨h, (hsI_lt h).mp t.1⟩
        · obtain rfl : k = m := by omega
          exact no (hsI_m.mp t.1)
      · have hq' : q < Q := by omega
        refine ⟨by rw [t8, ro8, if_neg (by omega)]; exact (i7 q hq').1.up, ?_⟩
        rw [kpC_ne (by rw [← hq0]; exact y), t11 q y, ro9, if_neg (by omega)]
        exact (i7 q hq').2
    · intro j hj
      by_cases y : j = i
      · rw [y, ← hq0]; exact t13
      · rw [t14 j y, (sn (n0 + 1) (by omega) (by omega)).row]; exact i9 j (by omega)
end Pl3
