/-! undo -/
section Un
variable {F : Nat} {S : St}
theorem e_pastAt {h f i : Nat} (hx : FxF S) (s908 : si S 908 0 = nI f) (hf : f < 6) (hi : i < 6) : f_X10_pastAt F S 0 (nI i) = some (some (70 + 21 * ((f + i) % 6)), S) := by
  have tl := Nat.mod_lt (f + i) (show 0 < 6 by omega)
  unfold f_X10_pastAt
  rw [s908, nI_add, lt_eq, mod6 (by omega), if_neg (nI_pos (by omega)), hx.r907_0, ob_some, hx.l69, if_neg (nI_ge tl (by omega)), ob_some, hx.l69, cki_nI tl (by omega), nI_clamp (by omega), hx.2.2.2 _ tl, os_s]
/-- the model takes a remembered spool back -/
theorem m_restore {t : Nat} {N B : Nat → Int32} (hx : FxF S) (ht : t < 6) (w : WB N B) (hN' : ∀ k, k < 6391 → ai S 207 (6391 * t + k) = N k) (hB : ∀ q j, q < kN N 8 → j < kN N (4771 + 3 * q) → ai S 208 (96000 * t + (200 * q + j)) = B (200 * q + j)) (hF : 100000 ≤ F) :
    ∃ T, f_X11_undo_L46 F F S 197 (nI t) 0 = some (si S 1026 197, T) ∧ (∀ k, k < 6391 → ai T 198 k = N k) ∧ EqB N B (ai T 200) ∧ MFr S T ∧ ai T 207 = ai S 207 ∧ ai T 208 = ai S 208 ∧ si T = si S := by
  have b8 := w.n8.2
  have bytes : ∀ d k fu T, k + d = 200 * kN N 8 → d < fu → MFr S T → si T = si S → ai T 207 = ai S 207 → ai T 208 = ai S 208 → (∀ j, j < 6391 → ai T 198 j = N j) → (∀ j, j < k → ai T 200 j = (ai S 208 (96000 * t + j)).toInt8.toInt32) →
      ∃ T', f_X11_undo_L79 F fu T 197 (nI t) (nI k) = some (si S 1026 197, T') ∧ MFr S T' ∧ si T' = si S ∧ ai T' 207 = ai S 207 ∧ ai T' 208 = ai S 208 ∧ (∀ j, j < 6391 → ai T' 198 j = N j) ∧ (∀ j, j < 200 * kN N 8 → ai T' 200 j = (ai S 208 (96000 * t + j)).toInt8.toInt32) := by
    intro d
    induction d with
    | zero =>
      intro k fu T hk hfu m1 m2 m3 m4 m5 m6
      obtain ⟨fu, rfl⟩ : ∃ f', fu = f' + 1 := ⟨fu - 1, by omega⟩
      have : k = 200 * kN N 8 := by omega
      subst this
      have hxT := m1.fx hx
      refine ⟨T, ?_, m1, m2, m3, m4, m5, m6⟩
      unfold f_X11_undo_L79
      rw [hxT.r1001_197, ob_some, hxT.l198, show (8 : Int32) = nI 8 from rfl, cki_nI (by omega) (by omega), nI_clamp (by omega), m5 8 (by omega), w.n8.1, show (200 : Int32) = nI 200 from rfl, nI_mul, if_pos (nI_le (Nat.le_refl _) (by omega)), m2]
    | succ d ih =>
      intro k fu T hk hfu m1 m2 m3 m4 m5 m6
      obtain ⟨fu, rfl⟩ : ∃ f', fu = f' + 1 := ⟨fu - 1, by omega⟩
      have hxT := m1.fx hx
      have ne : ∀ o, ¬ o = 200 → ai (uai T 200 k (ai S 208 (96000 * t + k)).toInt8.toInt32) o = ai T o := fun o ho => (SameO.uai _ ho).row
      obtain ⟨T', t1, t2⟩ := ih (k + 1) fu (uai T 200 k (ai S 208 (96000 * t + k)).toInt8.toInt32) (by omega) (by omega) (m1.tr (MFr.uai _ (by omega))) m2 (by rw [ne _ (by omega)]; exact m3) (by rw [ne _ (by omega)]; exact m4) (by rw [ne _ (by omega)]; exact m5) (fun j hj => by
        rw [ai_uai]
        by_cases z : j = k
        · subst z; rw [if_pos ⟨rfl, rfl⟩]
        · rw [if_neg (by omega)]; exact m6 j (by omega))
      refine ⟨T', ?_, t2⟩
      rw [← t1]
      conv => lhs; unfold f_X11_undo_L79
      rw [hxT.r1001_197, ob_some, hxT.l198, show (8 : Int32) = nI 8 from rfl, cki_nI (by omega) (by omega), nI_clamp (by omega), m5 8 (by omega), w.n8.1, show (200 : Int32) = nI 200 from rfl, nI_mul, if_neg (nI_ge (by omega) (by omega)), hxT.r1003_197, ob_some, hxT.r1025_197, ob_some, hxT.l200, hxT.l208, show (96000 : Int32) = nI 96000 from rfl, nI_mul, nI_add, cki_nI (by omega) (by omega), cki_nI (by omega) (by omega), nI_clamp (by omega), nI_clamp (by omega), m4, lt_eq, lt_eq, nI_1]
  have words : ∀ d k fu T, k + d = 6391 → d < fu → MFr S T → si T = si S → ai T 207 = ai S 207 → ai T 208 = ai S 208 → (∀ j, j < k → ai T 198 j = N j) →
      ∃ T', f_X11_undo_L46 F fu T 197 (nI t) (nI k) = some (si S 1026 197, T') ∧ MFr S T' ∧ si T' = si S ∧ ai T' 207 = ai S 207 ∧ ai T' 208 = ai S 208 ∧ (∀ j, j < 6391 → ai T' 198 j = N j) ∧ (∀ j, j < 200 * kN N 8 → ai T' 200 j = (ai S 208 (96000 * t + j)).toInt8.toInt32) := by
    intro d
    induction d with
    | zero =>
      intro k fu T hk hfu m1 m2 m3 m4 m5
      obtain ⟨fu, rfl⟩ : ∃ f', fu = f' + 1 := ⟨fu - 1, by omega⟩
      have : k = 6391 := by omega
      subst this
      obtain ⟨T', t1, t2⟩ := bytes (200 * kN N 8) 0 F T (by omega) (by omega) m1 m2 m3 m4 m5 (fun j hj => by omega)
      refine ⟨T', ?_, t2⟩
      unfold f_X11_undo_L46
      rw [if_pos (by decide)]
      exact t1
    | succ d ih =>
      intro k fu T hk hfu m1 m2 m3 m4 m5
      obtain ⟨fu, rfl⟩ : ∃ f', fu = f' + 1 := ⟨fu - 1, by omega⟩
      have hxT := m1.fx hx
      have ne : ∀ o, ¬ o = 198 → ai (uai T 198 k (N k)) o = ai T o := fun o ho => (SameO.uai _ ho).row
      obtain ⟨T', t1, t2⟩ := ih (k + 1) fu (uai T 198 k (N k)) (by omega) (by omega) (m1.tr (MFr.uai _ (by omega))) m2 (by rw [ne _ (by omega)]; exact m3) (by rw [ne _ (by omega)]; exact m4) (fun j hj => by
        rw [ai_uai]
        by_cases z : j = k
        · subst z; rw [if_pos ⟨rfl, rfl⟩]
        · rw [if_neg (by omega)]; exact m5 j (by omega))
      refine ⟨T', ?_, t2⟩
      rw [← t1]
      conv => lhs; unfold f_X11_undo_L46
      rw [show (6391 : Int32) = nI 6391 from rfl, if_neg (nI_ge (by omega) (by omega)), hxT.r1001_197, ob_some, hxT.r1024_197, ob_some, hxT.l198, hxT.l207, nI_mul, nI_add, cki_nI (by omega) (by omega), cki_nI (by omega) (by omega), nI_clamp (by omega), nI_clamp (by omega), m3, hN' k (by omega), lt_eq, lt_eq, nI_1]
  obtain ⟨T', t1, t2, t3, t4, t5, t6, t7⟩ := words 6391 0 F S (by omega) (by omega) (MFr.rf S) rfl rfl rfl (fun j hj => by omega)
  refine ⟨T', t1, t6, fun q j hq hj => ?_, t2, t4, t5, t3⟩
  obtain ⟨w1, -, -, -, w5⟩ := w.wP q hq
  have := w1.2
  rw [t7 (200 * q + j) (by omega), hB q j hq hj]
  exact w5 j hj
end Un
section A
variable {F : Nat} {xs : Nat → Int32} {L : Nat} {S : St} {n : Nat} {i : Int32}
theorem ok_55 (hF : 100000 ≤ F) (h : Rel S n) (hi : ∀ k : Nat, k < 6 → vp_in (i + nI k) L) : Ok (f_law55 F xs L S n 0 197 210 211 i) := by
  unfold f_law55 f_L_undo
  obtain ⟨hh, ff, Ns, Bs, rc, rm, rx⟩ := h.parts
  have hx := h.fx
  obtain ⟨c1, c2, c3, c4, c5⟩ := rc.2.2.1
  obtain ⟨⟨m1, m2, m3⟩, m4, m5, m6, m7⟩ := rm
  by_cases z : hh = 0
  · subst z
    refine endL 1 0 S (ui S 1000 197 1) ?_ (fm := fun S => f_X11_undo F S 197) ?_ (th0 _ _) (fun z => absurd z (by decide)) (h.eqv (eqv_thr S 1))
    · unfold f_X10_undo
      rw [c3, if_neg (by decide)]
      rfl
    · show f_X11_undo F S 197 = _
      unfold f_X11_undo f_X11_undo_L13
      rw [m1, if_pos (by decide), show (0 : Int32) = bI False from rfl, e_passes, ob_some]
      rfl
  · obtain ⟨t, ht⟩ : ∃ t, t = (ff + (hh - 1)) % 6 := ⟨_, rfl⟩
    have tl : t < 6 := by rw [ht]; exact Nat.mod_lt _ (by omega)
    have g := c5 (hh - 1) (by omega)
    have g2 := m3 (hh - 1) (by omega)
    rw [← ht] at g g2
    have wt := g.c0.wb
    -- the class
    obtain ⟨T1, hT1⟩ : ∃ T1, T1 = ui S 909 0 (nI (hh - 1)) := ⟨_, rfl⟩
    have O1 : ∀ k, ¬ k = 0 → SameO S T1 k := fun k hk => by rw [hT1]; exact SameO.ui _ hk
    have hx1 : FxF T1 := by rw [hT1]; exact hx.agr (fun _ _ _ _ => rfl) (fun _ _ => rfl) rfl
    have s908 : si T1 908 0 = nI ff := by rw [hT1, si_ui, if_neg (by decide)]; exact c4
    have g' : Cl T1 n (70 + 21 * t) (Ns t) (Bs t) := g.agr (Nat.le_refl _) (fun k hk => O1 k (by omega))
    obtain ⟨r, r1, -⟩ := g'.c0.ru
    have hd : SpF T1 (70 + 21 * t) := hx1.2.2.1 _ (by
      have : ∀ t, t < 6 → 70 + 21 * t ∈ spools := by decide
      exact this _ tl)
    obtain ⟨T2, q1, q2⟩ := e_copyFrom (F := F) (S := T1) (s := 70 + 21 * t) (d := 27) hd hx1.sp27 (Or.inr (by omega)) r1 (by omega)
    have O2 := q2.1
    have fc : f_X10_undo F S 0 = some (.inr (nI (hh - 1)), T2) := by
      have e1 : nI hh - 1 = nI (hh - 1) := by rw [show (1 : Int32) = nI 1 from rfl, nI_sub (by omega)]
      unfold f_X10_undo
      rw [c3, if_pos (show (0 : Int32) < nI hh from nI_lt (a := 0) (by omega) (by omega)), e1, lt_eq, ← hT1]
      have s909 : si T1 909 0 = nI (hh - 1) := by rw [hT1]; rfl
      rw [s909, e_pastAt (h := hh) hx1 s908 c2 (by omega), ob_some, ← ht]
      simp only [lt_eq, os_s]
      rw [hx1.r905_0, ob_some, q1, ob_some, (O2 0 (by omega)).1, s909]
    have hx2 : FxF T2 := hx1.agr (fun f k hf _ => q2.2.1 f k (fun y => hf y.1)) (fun k _ => by rw [q2.2.2.1]) (O2 69 (by omega)).2.2.2.2.1
    have cf2 : CFr n S T2 := ⟨fun k _ k0 k1 k2 _ _ => (O1 k k0).tr (O2 k (by omega)), fun f f1 f2 => by rw [(O2 0 (by omega)).1, hT1, si_ui, if_neg (fun y => f2 y.1)]⟩
    have rc2 : RC T2 n (hh - 1) ff Ns Bs (Ns t) (Bs t) := by
      refine ⟨h.hn, hx2, ⟨by omega, c2, by rw [(O2 0 (by omega)).1, hT1]; rfl, by rw [(O2 0 (by omega)).1]; exact s908, fun k hk => ?_⟩, g'.copy q2 (by omega)⟩
      have := Nat.mod_lt (ff + k) (show 0 < 6 by omega)
      exact (c5 k (by omega)).agr (Nat.le_refl _) (fun o ho => (O1 o (by omega)).tr (O2 o (by omega)))
    obtain ⟨S1, hS1⟩ : ∃ S1, S1 = ual T2 210 0 (nI (hh - 1)).toInt64 := ⟨_, rfl⟩
    have rc3 := rc2.out 0 (nI (hh - 1)).toInt64
    have cf3 : CFr n S S1 := by rw [hS1]; exact cf2.tr (n' := n) (CFr.out n T2 0 _) (Nat.le_refl _)
    rw [← hS1] at rc3
    have rx3 := rx.cfr cf3 h.hn
    have O3 : ∀ o, (o = 197 ∨ o = 198 ∨ o = 200 ∨ o = 207 ∨ o = 208) → SameO S S1 o := fun o ho => cf3.1 o (by have := h.hn; omega) (by omega) (by omega) (by omega) (by omega) (by omega)
    have hx3 := rc3.2.1
    -- the model
    obtain ⟨U1, hU1⟩ : ∃ U1, U1 = ui (ui S1 1000 197 0) 1026 197 (nI (hh - 1)) := ⟨_, rfl⟩
    have mU1 : MFr S1 U1 := by rw [hU1]; exact (MFr.ui _ (by omega)).tr (MFr.ui _ (by omega))
    have hxU := mU1.fx hx3
    have aU : ∀ o, ai U1 o = ai S1 o := fun o => by rw [hU1]; rfl
    obtain ⟨U2, u1, u2, u3, u4, u5, u6, u7⟩ := m_restore (F := F) (S := U1) (t := t) (N := Ns t) (B := Bs t) hxU tl wt (fun k hk => by rw [aU, (O3 207 (by omega)).row]; exact g2.1 k hk) (fun q j hq hj => by rw [aU, (O3 208 (by omega)).row]; exact g2.2 q j hq hj) hF
    have s26 : si S1 1026 197 = nI hh := by rw [(O3 197 (by omega)).1]; exact m1
    have s27 : si S1 1027 197 = nI ff := by rw [(O3 197 (by omega)).1]; exact m2
    have e26 : si U1 1026 197 = nI (hh - 1) := by rw [hU1]; rfl
    have e27 : si U1 1027 197 = nI ff := by rw [hU1, si_ui, if_neg (by decide), si_ui, if_neg (by decide)]; exact s27
    have fm : f_X11_undo F S1 197 = some (nI (hh - 1), U2) := by
      have e1 : nI hh - 1 = nI (hh - 1) := by rw [show (1 : Int32) = nI 1 from rfl, nI_sub (by omega)]
      unfold f_X11_undo f_X11_undo_L13
      rw [s26, if_neg (nI_nle (by omega) (by omega)), show f_X11_passes F S1 197 1 = some (1, ui S1 1000 197 0) from e_passes F S1 True, ob_some]
      simp only [lt_eq]
      rw [if_pos (by decide), si_ui, if_neg (by decide), s26, e1, ← hU1, e27, e26, nI_add, mod6 (by omega), ← ht, u1, e26]
    have mU : MFr S1 U2 := mU1.tr u4
    have rmU : RM U2 (hh - 1) ff Ns Bs (Ns t) (Bs t) := by
      refine ⟨⟨by rw [u7]; exact e26, by rw [u7]; exact e27, fun k hk => ?_⟩, u2, u3, ?_, ?_⟩
      · rw [u5, u6, aU, aU, (O3 207 (by omega)).row, (O3 208 (by omega)).row]
        exact m3 k (by omega)
      · rw [mU.2.2.1 _ (by omega), (O3 197 (by omega)).1]; exact m6
      · rw [mU.1, (O3 197 (by omega)).2.1]; exact m7
    refine endM (nI (hh - 1)) T2 U2 ?_ (fm := fun S => f_X11_undo F S 197) (by rw [← hS1]; exact fm) ?_ ?_ (Rel.of (rc3.mfr mU) rmU (rx3.mfr mU))
    · rw [fc, ob_some]
      simp only [lt_eq, sm_r]
      rw [hx2.l210, cki_0 (by omega) (by omega)]
      rfl
    · rw [u7, hU1, si_ui, if_neg (by decide)]
      exact th0 _ _
    · rw [← hS1, mU.2.2.2.2.1]
end A
