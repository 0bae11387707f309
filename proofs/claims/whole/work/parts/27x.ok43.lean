/-! setHold, the call -/
section A
variable {F : Nat} {xs : Nat → Int32} {L : Nat} {S : St} {n : Nat} {i : Int32}
theorem isHold_b {T : St} {N B : Nat → Int32} (hx : FxF T) (a : ai T 198 = N) (w : WB N B) (x : Int32) : f_X11_isHold F T 197 x = some (bI (0 ≤ x ∧ x < N 6), T) := by
  have b6 := w.n6.2
  unfold f_X11_isHold
  rw [hx.r1001_197, ob_some, hx.l198, show (6 : Int32) = nI 6 from rfl, cki_nI (by omega) (by omega), nI_clamp (by omega), a, w.n6.1, e_in0 F T x (by omega), ob_some]
  simp only [lt_eq]
  rw [ck_t (bI01 _)]
/-- a call that is refused or changes nothing -/
theorem m_setHold0 {T : St} {N B : Nat → Int32} (hx : FxF T) (a : ai T 198 = N) (w : WB N B) (x b : Int32) (hb : b = 0 ∨ b = 1) (h : ¬ ((0 ≤ x ∧ x < N 6) ∧ ¬ N (208 + 21 * x.toNatClampNeg) = b)) : f_X11_setHold F T 197 x b = some (0, ui T 1000 197 (if ¬ (0 ≤ x ∧ x < N 6) then 1 else 0)) := by
  have b6 := w.n6.2
  unfold f_X11_setHold
  rw [isHold_b (F := F) hx a w x, ob_some]
  simp only [lt_eq]
  rw [e_passes, ob_some]
  simp only [lt_eq, eq_bI]
  by_cases c : 0 ≤ x ∧ x < N 6
  · have c' := c
    rw [w.n6.1] at c'
    obtain ⟨k, hk, rfl⟩ := ix (by omega) c'
    have z : N (208 + 21 * k) = b := by
      rw [nI_clamp (by omega)] at h
      exact Classical.not_not.mp (fun y => h ⟨c, y⟩)
    have hV : FxF (ui T 1000 197 (if ¬ (0 ≤ nI k ∧ nI k < N 6) then 1 else 0)) := fx_thr hx _
    rw [if_pos c, show (3 : Int32) = nI 3 from rfl, m_hld hV (by omega) (by omega), ob_some, ai_ui, a, show 205 + 21 * k + 3 = 208 + 21 * k by omega, z]
    simp only [lt_eq]
    unfold f_X11_setHold_L27
    rcases hb with rfl | rfl
    · rw [if_pos (by decide), if_neg (fun y => y rfl)]
    · rw [if_neg (fun y => y rfl), if_neg (fun y => y rfl)]
  · rw [if_neg c]
theorem hold_ok (hF : 100000 ≤ F) (h : Rel S n) (x b : Int32) (hb : b = 0 ∨ b = 1) :
    Ok (Option.bind (f_L_setHold F S 0 x b 210) fun z2 => lt z2.1 fun r4 => lt z2.2 fun S3 => Option.bind (f_X11_setHold F S3 197 x b) fun z7 => lt z7.1 fun r9 => lt z7.2 fun S8 => Option.bind (f_X11_thrown F S8 197) fun z11 => lt z11.1 fun r13 => lt z11.2 fun S12 =>
      if r13 = r4 then (if ¬ r4 = 0 then (some (S12, n)) else (cki 0 (ln S12 210) <| if (lg_cmp (al S12 210 (Int32.toNatClampNeg 0)) r9.toInt64) = 0 then (some (S12, n)) else (none))) else (none)) := by
  have b6 := h.w.n6.2
  have b7 := h.w.n7.2
  have b8 := h.w.n8.2
  have hx := h.fx
  obtain ⟨act, a1, a2, a3⟩ := h.c0.ac
  have first : ∀ k, k < kN (ai S 198) 6 → f_X10_hasBit F S (si S 703 27) (nI k) = some (bI (ai S 198 (208 + 21 * k) = 1), S) := fun k hk => by
    rw [a1, e_hasBit F S (by omega) (by omega), bI_congr (q := ai S 198 (208 + 21 * k) = 1) ⟨fun z => ((a3 k (by omega)).mp z).2, fun z => (a3 k (by omega)).mpr ⟨hk, z⟩⟩]
  have hact : ∀ k, k < kN (ai S 198) 6 → (ai S 198 (208 + 21 * k) = 0 ∨ ai S 198 (208 + 21 * k) = 1) := fun k hk => (h.w.wH k hk).2.2.2.2.1
  have beq : ∀ k, k < kN (ai S 198) 6 → (bI (ai S 198 (208 + 21 * k) = 1) = b ↔ ai S 198 (208 + 21 * k) = b) := fun k hk => by
    rcases hact k hk with e | e <;> rw [e] <;> rcases hb with rfl | rfl <;> decide
  unfold f_L_setHold
  by_cases hc : (0 ≤ x ∧ x < ai S 198 6) ∧ ¬ ai S 198 (208 + 21 * x.toNatClampNeg) = b
  rotate_left
  · refine askB h (fm := fun S => f_X11_setHold F S 197 x b) (0 ≤ x ∧ x < ai S 198 6) 0 4 1 S ?_ (Eqv.rf S) rfl (by decide) (fun S' h' e => ?_)
    · unfold f_X10_setHold
      rw [e_needHold h, ob_some]
      by_cases c1 : 0 ≤ x ∧ x < ai S 198 6
      · obtain ⟨k, hk, hk2, rfl⟩ := ixH h c1
        have z : ai S 198 (208 + 21 * k) = b := by
          rw [nI_clamp (by omega)] at hc
          exact Classical.not_not.mp (fun y => hc ⟨c1, y⟩)
        rw [if_pos c1, if_pos c1, lt_eq, sm_r, hx.r905_0, ob_some, first k hk, ob_some]
        simp only [lt_eq]
        rw [if_neg (show ¬ ¬ bI (ai S 198 (208 + 21 * k) = 1) = b from fun y => y ((beq k hk).mpr z))]
      · rw [if_neg c1, if_neg c1]
        rfl
    · have e1 := m_setHold0 (F := F) h'.fx e.net h.w x b hb hc
      exact ⟨_, _, e1, eqv_thr S' _, rfl, rfl, fun _ => rfl⟩
  · obtain ⟨c1, c2⟩ := hc
    obtain ⟨k, hk, hk2, rfl⟩ := ixH h c1
    rw [nI_clamp (by omega)] at c2
    obtain ⟨q1, q2, -⟩ := h.w.wH k hk
    obtain ⟨u, hu⟩ : ∃ u, u = kN (ai S 198) (205 + 21 * k) := ⟨_, rfl⟩
    have ue : ai S 198 (205 + 21 * k) = nI u := by rw [hu]; exact q1.1
    have u4 : u < kN (ai S 198) 4 := by rw [hu]; exact q2
    obtain ⟨hh, ff, Ns, Bs, rc, rm, rx⟩ := h.parts
    obtain ⟨T1, t1, t2, t3, t4, t5, t6, t7⟩ := rc.rem (F := F) (by omega)
    have hx1 := t2.2.1
    have g1 := t2.2.2.2
    obtain ⟨T2, p1, p2, p3, p4, p5, p6⟩ := e_setHold (F := F) g1 (by omega) hx1.sp27 hk hb (by omega) ue u4
    obtain ⟨M, hM⟩ : ∃ M, M = (if b = 0 then (relN lgN (ai S 200) u (kN (ai S 198) 7) (upd (ai S 198) (208 + 21 * k) b)).1 else upd (ai S 198) (208 + 21 * k) b) := ⟨_, rfl⟩
    obtain ⟨q0, hq0⟩ : ∃ q0 : Int32, q0 = (if b = 0 then nI (relN lgN (ai S 200) u (kN (ai S 198) 7) (upd (ai S 198) (208 + 21 * k) b)).2 else 0) := ⟨_, rfl⟩
    rw [← hM] at p2
    rw [← hq0] at p1
    have hx2 : FxF T2 := hx1.agr (fun f i _ _ => p4 f i) (fun i _ => by rw [p5]) (p3 69 (by omega) (by omega) (by omega) (by omega) (by omega) (by omega)).2.2.2.2.1
    have fc : f_X10_setHold F S 0 (nI k) b = some (.inr q0, T2) := by
      unfold f_X10_setHold
      rw [e_needHold h, ob_some, if_pos c1, lt_eq, sm_r, hx.r905_0, ob_some, first k hk, ob_some]
      simp only [lt_eq]
      rw [if_pos (show ¬ bI (ai S 198 (208 + 21 * k) = 1) = b from fun y => c2 ((beq k hk).mp y)), t1, ob_some, hx1.r905_0, ob_some]
      exact p1
    have rc2 : RC T2 n (hN hh) (fN hh ff) (setF Ns (tN hh ff) (ai S 198)) (setF Bs (tN hh ff) (ai S 200)) M (ai S 200) :=
      ⟨t2.1, hx2, t2.2.2.1.agr (Nat.le_refl _) (fun k hk => p3 k (by omega) (by omega) (by omega) (by omega) (by omega) (by omega)) ((p3 0 (by omega) (by omega) (by omega) (by omega) (by omega) (by omega)).1 _) ((p3 0 (by omega) (by omega) (by omega) (by omega) (by omega) (by omega)).1 _), p2⟩
    have cf2 : CFr n S T2 := t3.tr (n' := n) ⟨fun k _ _ hk _ _ _ => p3 k (by omega) (by omega) (by omega) (by omega) (by omega) (by omega), fun _ _ _ => (p3 0 (by omega) (by omega) (by omega) (by omega) (by omega) (by omega)).1 _⟩ (Nat.le_refl _)
    obtain ⟨S1, hS1⟩ : ∃ S1, S1 = ual T2 210 0 q0.toInt64 := ⟨_, rfl⟩
    have rc3 := rc2.out 0 q0.toInt64
    have cf3 : CFr n S S1 := by rw [hS1]; exact cf2.tr (n' := n) (CFr.out n T2 0 _) (Nat.le_refl _)
    rw [← hS1] at rc3
    have rx3 := rx.cfr cf3 h.hn
    have hx3 := rc3.2.1
    have n1 : ai S1 198 = ai S 198 := (cf3.1 198 (by have := h.hn; omega) (by omega) (by omega) (by omega) (by omega) (by omega)).row
    obtain ⟨U1, u1, u2, m1, hxU, u4', u5, u6⟩ := mutM h rc rm cf3 hx3 (MSc.thr S1 0) hF
    -- the model's change
    obtain ⟨V, hV⟩ : ∃ V, V = uai U1 198 (208 + 21 * k) b := ⟨_, rfl⟩
    have NV : Net U1 V := by rw [hV]; exact Net.uai _ _
    have vV : ai V 198 = upd (ai S 198) (208 + 21 * k) b := by
      funext j
      rw [hV, ai_uai, u4']
      unfold upd
      by_cases z : j = 208 + 21 * k
      · rw [if_pos ⟨rfl, z⟩, if_pos z]
      · rw [if_neg (fun y => z y.2), if_neg z]
    have hxV := NV.mfr.fx hxU
    have fin : ∃ U2, f_X11_setHold_L60 F U1 197 (nI k) b b ((205 + (21 * nI k)) + 3) 198 = some (q0, U2) ∧ Rst U1 U2 ∧ ai U2 198 = M := by
      unfold f_X11_setHold_L60
      rw [show (205 : Int32) = nI 205 from rfl, show (21 : Int32) = nI 21 from rfl, show (3 : Int32) = nI 3 from rfl, nI_mul, nI_add, nI_add, show 205 + 21 * k + 3 = 208 + 21 * k by omega, hxU.l198, cki_nI (by omega) (by omega), nI_clamp (by omega), ← hV]
      simp only [lt_eq]
      rcases hb with rfl | rfl
      · rw [if_pos rfl, show (0 : Int32) = nI 0 from rfl, m_hld hxV (by omega) (by omega), ob_some, vV, upd_n (by omega), show 205 + 21 * k + 0 = 205 + 21 * k by omega, ue]
        simp only [lt_eq]
        unfold f_X11_release
        have W := p6 rfl
        have w0 := (W 0 (Nat.zero_le _)).wb
        rw [relN_0] at w0
        have k7 : kN (upd (ai S 198) (208 + 21 * k) 0) 7 = kN (ai S 198) 7 := by unfold kN; rw [upd_n (by omega)]
        have k4 : kN (upd (ai S 198) (208 + 21 * k) 0) 4 = kN (ai S 198) 4 := by unfold kN; rw [upd_n (by omega)]
        obtain ⟨U2, r1, r2, r3⟩ := m_release (F := F) (S := V) (u := u) (B := ai S 200) hxV ((NV.si 1005 197).trans u2.2.2.2.1) (by rw [NV.row (by omega), u5]) (by rw [vV]; exact w0) (by rw [vV, k4]; exact u4) (by rw [vV, k7]; exact W) (by omega) (kN (ai S 198) 7) (by rw [vV, k7]; exact Nat.le_refl _)
        rw [vV] at r1 r3
        have hx4 : FxF U2 := r2.1.fx hxV
        have lo := relN_lo (L := lgN) (N := upd (ai S 198) (208 + 21 * k) 0) (B := ai S 200) (u := u) isLg_lg (by have := h.w.n4.2; omega) (by unfold kN; rw [upd_n (by omega)]; exact b8) (kN (ai S 198) 7) (by omega)
        obtain ⟨fu, f1, f2⟩ := sub_fuel (F := F) (k := kN (ai S 198) 7) (by omega)
        refine ⟨U2, ?_, NV.rst.tr r2, by rw [r3, hM, if_pos rfl]⟩
        rw [r1, f1]
        unfold f_X11_release_L4
        rw [hx4.r1001_197, ob_some, hx4.l198, show (7 : Int32) = nI 7 from rfl, cki_nI (by omega) (by omega), nI_clamp (by omega), r3, lo 7 (by omega) (by omega) (by unfold xD; omega) (by unfold xS; omega), upd_n (by omega), h.w.n7.1, if_pos (nI_le (Nat.le_refl _) (by omega)), ob_some, hq0, if_pos rfl]
      · rw [if_neg (by decide)]
        exact ⟨V, by rw [hq0, if_neg (by decide)], NV.rst, by rw [vV, hM, if_neg (by decide)]⟩
    obtain ⟨U2, v1, v2, v3⟩ := fin
    have fm : f_X11_setHold F S1 197 (nI k) b = some (q0, U2) := by
      unfold f_X11_setHold
      rw [isHold_b (F := F) hx3 n1 h.w, ob_some]
      simp only [lt_eq]
      rw [e_passes, ob_some]
      simp only [lt_eq, eq_bI]
      have hxT : FxF (ui S1 1000 197 0) := fx_thr hx3 0
      rw [if_pos c1, if_neg (show ¬ ¬ (0 ≤ nI k ∧ nI k < ai S 198 6) from fun z => z c1), show (3 : Int32) = nI 3 from rfl, m_hld hxT (by omega) (by omega), ob_some, ai_ui, n1, show 205 + 21 * k + 3 = 208 + 21 * k by omega]
      simp only [lt_eq]
      have go : ∀ s0 : Int32, ¬ s0 = b → f_X11_setHold_L27 F (ui S1 1000 197 0) 197 (nI k) b s0 = some (q0, U2) := by
        intro s0 hs
        unfold f_X11_setHold_L27
        rw [if_pos hs, u1, ob_some, hxU.r1001_197, ob_some, ← v1]
        rcases hb with rfl | rfl
        · rw [if_pos rfl]
        · rw [if_neg (by decide)]
      rcases hact k hk with e | e
      · rw [e, if_pos (by decide)]
        exact go 0 (by rw [e] at c2; exact c2)
      · rw [e, if_neg (show ¬ ¬ (1 : Int32) = 1 from fun y => y rfl)]
        exact go 1 (by rw [e] at c2; exact c2)
    have mU : MFr S1 U2 := m1.tr v2.1
    have rmU : RM U2 (hN hh) (fN hh ff) (setF Ns (tN hh ff) (ai S 198)) (setF Bs (tN hh ff) (ai S 200)) M (ai S 200) := by
      refine u2.net (fun k _ => by rw [v3]) ?_ v2.2.2.1 v2.2.2.2.1 v2.2.2.2.2.1 v2.2.2.2.2.2.1 (v2.1.2.2.1 _ (by omega)) (v2.1.1 _ _)
      rw [v2.2.1, u5]
      exact EqB.rf _ _
    refine endM q0 T2 U2 ?_ (fm := fun S => f_X11_setHold F S 197 (nI k) b) (by rw [← hS1]; exact fm) ?_ ?_ (Rel.of (rc3.mfr mU) rmU (rx3.mfr mU))
    · rw [fc, ob_some]
      simp only [lt_eq, sm_r]
      rw [hx2.l210, cki_0 (by omega) (by omega)]
      rfl
    · rw [v2.2.2.2.2.2.2, u6]
      exact th0 _ _
    · rw [← hS1, mU.2.2.2.2.1]
theorem ok_43 (hF : 100000 ≤ F) (h : Rel S n) (hi : ∀ k : Nat, k < 6 → vp_in (i + nI k) L) : Ok (f_law43 F xs L S n 0 197 210 211 i) := by
  have h1 : vp_in (i + 1) L := hi 1 (by omega)
  have h2 : vp_in (i + 2) L := hi 2 (by omega)
  unfold f_law43
  simp only [cki_t h1, cki_t h2]
  generalize xs (Int32.toNatClampNeg (i + 1)) = x
  generalize xs (Int32.toNatClampNeg (i + 2)) = y
  by_cases hy : y = 0
  · simp only [if_pos hy]
    exact hold_ok hF h x 0 (Or.inl rfl)
  · simp only [if_neg hy]
    exact hold_ok hF h x 1 (Or.inr rfl)
end A
