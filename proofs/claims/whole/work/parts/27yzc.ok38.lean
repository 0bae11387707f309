/-! commonBytes -/
theorem rdP_lt {N B : Nat → Int32} (w : WB N B) {u q : Nat} (h : rdP N u q) : q < kN N 8 := by
  obtain ⟨m, m1, -, i, i1, i2⟩ := h
  rw [← i2]
  exact ((w.wM m m1).2.2.2.2.2 i i1).2
theorem runN_stop {α : Type} {s : Nat → α → α} {a : α} {x : Nat} : ∀ d, (∀ k b, x ≤ k → k < x + d → s k b = b) → runN s (x + d) 0 a = runN s x 0 a := by
  intro d
  induction d with
  | zero => intro _; rfl
  | succ d ih =>
    intro h
    rw [← Nat.add_assoc, runN_s, Nat.zero_add, h (x + d) _ (by omega) (by omega)]
    exact ih (fun k b h1 h2 => h k b h1 (by omega))
section Rd
variable {F : Nat} {S : St} {B : Nat → Int32}
theorem m_reads (hx : FxF S) (w : WB (ai S 198) B) {u q : Nat} (hu : u < 10) (hq : q < 480) (hF : 1000 ≤ F) : f_X11_reads F S 197 (nI u) (nI q) = some (pI (rdP (ai S 198) u q), S) := by
  have b7 := w.n7.2
  have loop : ∀ d m fu, m + d = kN (ai S 198) 7 → d < fu → (∀ m', m' < m → ¬ (stN (ai S 198) m' u = 0 ∧ hasN (ai S 198) m' q)) → f_X11_reads_L2 F fu S 197 (nI u) (nI q) (nI m) = some (pI (rdP (ai S 198) u q), S) := by
    intro d
    induction d with
    | zero =>
      intro m fu hk hfu no
      obtain ⟨fu, rfl⟩ : ∃ f', fu = f' + 1 := ⟨fu - 1, by omega⟩
      unfold f_X11_reads_L2
      rw [hx.r1001_197, ob_some, hx.l198, show (7 : Int32) = nI 7 from rfl, cki_nI (by omega) (by omega), nI_clamp (by omega), w.n7.1, if_pos (nI_le (by omega) (by omega)), pI_f (fun ⟨m', y1, y2⟩ => no m' (by omega) y2)]
    | succ d ih =>
      intro m fu hk hfu no
      obtain ⟨fu, rfl⟩ : ∃ f', fu = f' + 1 := ⟨fu - 1, by omega⟩
      have next : ¬ (stN (ai S 198) m u = 0 ∧ hasN (ai S 198) m q) → f_X11_reads_L33 F (fun a0 a1 a2 a3 a4 => f_X11_reads_L2 F fu a0 a1 a2 a3 a4) S 197 (nI u) (nI q) (nI m) = some (pI (rdP (ai S 198) u q), S) := by
        intro z
        unfold f_X11_reads_L33
        rw [lt_eq, nI_1]
        exact ih (m + 1) fu (by omega) (by omega) (fun m' hm' => by
          by_cases e : m' = m
          · rw [e]; exact z
          · exact no m' (by omega))
      unfold f_X11_reads_L2
      rw [hx.r1001_197, ob_some, hx.l198, show (7 : Int32) = nI 7 from rfl, cki_nI (by omega) (by omega), nI_clamp (by omega), w.n7.1, if_neg (nI_ge (by omega) (by omega)), m_isLive hx (by omega) hu, ob_some]
      simp only [lt_eq, eq_bI]
      by_cases z : stN (ai S 198) m u = 0
      rotate_left
      · rw [if_neg z]
        exact next (fun y => z y.1)
      rw [if_pos z, m_has hx w (by omega) hq hF, ob_some]
      simp only [lt_eq]
      by_cases z2 : hasN (ai S 198) m q
      · rw [pI_t z2, if_neg (show ¬ (1 : Int32) = 0 by decide), pI_t ⟨m, by omega, z, z2⟩]
      · rw [pI_f z2, if_pos rfl]
        exact next (fun y => z2 y.2)
  unfold f_X11_reads
  exact loop (kN (ai S 198) 7) 0 F (by omega) (by omega) (fun m' h => by omega)
/-- the bytes that two users have in common -/
noncomputable def cmN (N : Nat → Int32) (u v x : Nat) : Int32 := runN (fun q a => pif (rdP N u q ∧ rdP N v q) (a + lenN N q) a) x 0 0
theorem cmN_s {N : Nat → Int32} {u v x : Nat} : cmN N u v (x + 1) = pif (rdP N u x ∧ rdP N v x) (cmN N u v x + lenN N x) (cmN N u v x) := by
  unfold cmN
  rw [runN_s, Nat.zero_add]
theorem m_common (hx : FxF S) (w : WB (ai S 198) B) {u v : Nat} (hu : u < 10) (hv : v < 10) (hF : 1000 ≤ F) : f_X11_commonBytes_L35 F F S 197 (nI u) (nI v) 0 0 = some (cmN (ai S 198) u v (kN (ai S 198) 8), S) := by
  have b8 := w.n8.2
  have loop : ∀ d q fu, q + d = kN (ai S 198) 8 → d < fu → f_X11_commonBytes_L35 F fu S 197 (nI u) (nI v) (cmN (ai S 198) u v q) (nI q) = some (cmN (ai S 198) u v (kN (ai S 198) 8), S) := by
    intro d
    induction d with
    | zero =>
      intro q fu hk hfu
      obtain ⟨fu, rfl⟩ : ∃ f', fu = f' + 1 := ⟨fu - 1, by omega⟩
      have : q = kN (ai S 198) 8 := by omega
      subst this
      unfold f_X11_commonBytes_L35
      rw [hx.r1001_197, ob_some, hx.l198, show (8 : Int32) = nI 8 from rfl, cki_nI (by omega) (by omega), nI_clamp (by omega), w.n8.1, if_pos (nI_le (Nat.le_refl _) (by omega))]
    | succ d ih =>
      intro q fu hk hfu
      obtain ⟨fu, rfl⟩ : ∃ f', fu = f' + 1 := ⟨fu - 1, by omega⟩
      have ih' := ih (q + 1) fu (by omega) (by omega)
      unfold f_X11_commonBytes_L35
      rw [hx.r1001_197, ob_some, hx.l198, show (8 : Int32) = nI 8 from rfl, cki_nI (by omega) (by omega), nI_clamp (by omega), w.n8.1, if_neg (nI_ge (by omega) (by omega)), m_reads hx w hu (by omega) hF, ob_some]
      simp only [lt_eq]
      unfold f_X11_commonBytes_L78 f_X11_commonBytes_L79
      by_cases z : rdP (ai S 198) u q
      rotate_left
      · rw [pI_f z, if_pos rfl, lt_eq, lt_eq, Int32.add_zero, nI_1]
        rw [cmN_s, pif_f (fun y => z y.1)] at ih'
        exact ih'
      rw [pI_t z, if_neg (show ¬ (1 : Int32) = 0 by decide), m_reads hx w hv (by omega) hF, ob_some]
      simp only [lt_eq]
      by_cases z2 : rdP (ai S 198) v q
      · rw [pI_t z2, if_neg (show ¬ (1 : Int32) = 0 by decide), m_len hx (by omega), ob_some]
        simp only [lt_eq]
        rw [nI_1]
        rw [cmN_s, pif_t ⟨z, z2⟩] at ih'
        exact ih'
      · rw [pI_f z2, if_pos rfl, Int32.add_zero, nI_1]
        rw [cmN_s, pif_f (fun y => z2 y.2)] at ih'
        exact ih'
  exact loop (kN (ai S 198) 8) 0 F (by omega) (by omega)
end Rd
section Rc
variable {F : Nat} {S : St} {n : Nat} {N B : Nat → Int32}
theorem e_common (hx : FxF S) (C : Cl0 S n 27 N B) (R : RowB N (ai S 196) (fun u q => rdP N u q)) {u v : Nat} (hu : u < kN N 4) (hv : v < kN N 4) (hF : 1000 ≤ F) : f_X10_commonBytes_L26 F F S 0 (nI u) (nI v) 0 0 = some (.inr (cmN N u v (kN N 8)), S) := by
  have w := C.wb
  have b8 := w.n8.2
  have b4 := w.n4.2
  have stop : cmN N u v 480 = cmN N u v (kN N 8) := by
    unfold cmN
    rw [show 480 = kN N 8 + (480 - kN N 8) by omega]
    exact runN_stop _ (fun k b h1 _ => pif_f (fun y => by have := rdP_lt w y.1; omega))
  have loop : ∀ d q fu, q + d = 480 → d < fu → f_X10_commonBytes_L26 F fu S 0 (nI u) (nI v) (cmN N u v q) (nI q) = some (.inr (cmN N u v (kN N 8)), S) := by
    intro d
    induction d with
    | zero =>
      intro q fu hk hfu
      obtain ⟨fu, rfl⟩ : ∃ f', fu = f' + 1 := ⟨fu - 1, by omega⟩
      have : q = 480 := by omega
      subst this
      unfold f_X10_commonBytes_L26
      rw [hx.r910_0, ob_some, hx.l196, if_pos (nI_le (Nat.le_refl _) (by omega)), stop]
    | succ d ih =>
      intro q fu hk hfu
      obtain ⟨fu, rfl⟩ : ∃ f', fu = f' + 1 := ⟨fu - 1, by omega⟩
      have ih' := ih (q + 1) fu (by omega) (by omega)
      obtain ⟨b, b1, b2, b3⟩ := R q (by omega)
      have t1 := (b3 u (by omega)).trans ⟨fun y => y.2, fun y => ⟨hu, y⟩⟩
      have t2 := (b3 v (by omega)).trans ⟨fun y => y.2, fun y => ⟨hv, y⟩⟩
      unfold f_X10_commonBytes_L26
      rw [hx.r910_0, ob_some, hx.l196, if_neg (nI_ge (by omega) (by omega)), ob_some, hx.l196, cki_nI (by omega) (by omega), nI_clamp (by omega), b2, e_hasBit F S b1 (by omega), ob_some]
      simp only [lt_eq, eq_bI]
      unfold f_X10_commonBytes_L82
      by_cases z : rdP N u q
      rotate_left
      · rw [if_neg (fun y => z (t1.mp y)), lt_eq, nI_1]
        rw [cmN_s, pif_f (fun y => z y.1)] at ih'
        exact ih'
      rw [if_pos (t1.mpr z), hx.r910_0, ob_some, hx.l196, cki_nI (by omega) (by omega), b2, e_hasBit F S b1 (by omega), ob_some]
      simp only [lt_eq, eq_bI]
      by_cases z2 : rdP N v q
      · obtain ⟨j, j1, j2, j3, j4, j5, -⟩ := e_bytesOf (F := F) C hx.sp27 (rdP_lt w z)
        have el : lenN N q = nI (kN N (4771 + 3 * q)) := (w.wP q (rdP_lt w z)).1.1
        rw [if_pos (t2.mpr z2), hx.r905_0, ob_some, hx.sp27.r710_0, ob_some, j1, ob_some]
        simp only [lt_eq]
        rw [ob_some, j5, ← el, nI_1]
        rw [cmN_s, pif_t ⟨z, z2⟩] at ih'
        exact ih'
      · rw [if_neg (fun y => z2 (t2.mp y)), nI_1]
        rw [cmN_s, pif_f (fun y => z2 y.2)] at ih'
        exact ih'
  exact loop 480 0 F (by omega) (by omega)
end Rc
section A
variable {F : Nat} {xs : Nat → Int32} {L : Nat} {S : St} {n : Nat} {i : Int32}
theorem ok_38 (hF : 100000 ≤ F) (h : Rel S n) (hi : ∀ k : Nat, k < 6 → vp_in (i + nI k) L) : Ok (f_law38 F xs L S n 0 197 210 211 i) := by
  have h1 : vp_in (i + 1) L := hi 1 (by omega)
  have h2 : vp_in (i + 2) L := hi 2 (by omega)
  unfold f_law38 f_L_commonBytes
  simp only [cki_t h1, cki_t h2]
  generalize xs (Int32.toNatClampNeg (i + 1)) = x
  generalize xs (Int32.toNatClampNeg (i + 2)) = y
  have hx := h.fx
  have b4 := h.w.n4.2
  -- the model
  have mdl : ∀ S', Rel S' n → Eqv S S' → ∀ (v : Int32), ((0 ≤ x ∧ x < ai S 198 4) ∧ (0 ≤ y ∧ y < ai S 198 4) → f_X11_commonBytes_L35 F F (ui S' 1000 197 0) 197 x y 0 0 = some (v, ui S' 1000 197 0)) →
      ∃ r S2, f_X11_commonBytes F S' 197 x y = some (r, S2) ∧ Eqv S' S2 ∧ al S2 = al S' ∧ si S2 1000 197 = (if ¬ ((0 ≤ x ∧ x < ai S 198 4) ∧ (0 ≤ y ∧ y < ai S 198 4)) then 1 else 0) ∧ ((0 ≤ x ∧ x < ai S 198 4) ∧ (0 ≤ y ∧ y < ai S 198 4) → r = v) := by
    intro S' h' e v hv
    have p1 := e_passes F S' True
    have p0 := e_passes F S' False
    unfold f_X11_commonBytes
    rw [e_isUser h', ob_some, e.net]
    simp only [lt_eq, eq_bI]
    by_cases c1 : 0 ≤ x ∧ x < ai S 198 4
    rotate_left
    · refine ⟨0, ui S' 1000 197 1, ?_, eqv_thr S' _, rfl, by rw [if_pos (fun z => c1 z.1)]; rfl, fun z => absurd z.1 c1⟩
      rw [if_neg c1]
      unfold f_X11_commonBytes_L21 f_X11_commonBytes_L22
      rw [show f_X11_passes F S' 197 0 = some (bI False, ui S' 1000 197 (if ¬ False then 1 else 0)) from p0, ob_some]
      rfl
    rw [if_pos c1, e_isUser h', ob_some, e.net]
    simp only [lt_eq, eq_bI]
    by_cases c2 : 0 ≤ y ∧ y < ai S 198 4
    rotate_left
    · refine ⟨0, ui S' 1000 197 1, ?_, eqv_thr S' _, rfl, by rw [if_pos (fun z => c2 z.2)]; rfl, fun z => absurd z.2 c2⟩
      rw [if_neg c2]
      unfold f_X11_commonBytes_L21 f_X11_commonBytes_L22
      rw [show f_X11_passes F S' 197 0 = some (bI False, ui S' 1000 197 (if ¬ False then 1 else 0)) from p0, ob_some]
      rfl
    · refine ⟨v, ui S' 1000 197 0, ?_, eqv_thr S' _, rfl, by rw [if_neg (fun z => z ⟨c1, c2⟩)]; rfl, fun _ => rfl⟩
      rw [if_pos c2]
      unfold f_X11_commonBytes_L22
      rw [show f_X11_passes F S' 197 1 = some (bI True, ui S' 1000 197 (if ¬ True then 1 else 0)) from p1, ob_some]
      simp only [lt_eq]
      rw [if_pos (show ¬ bI True = 0 by decide), if_neg (show ¬ ¬ True from fun z => z True.intro)]
      exact hv ⟨c1, c2⟩
  by_cases hc : (0 ≤ x ∧ x < ai S 198 4) ∧ (0 ≤ y ∧ y < ai S 198 4)
  rotate_left
  · refine askB h (fm := fun S => f_X11_commonBytes F S 197 x y) ((0 ≤ x ∧ x < ai S 198 4) ∧ (0 ≤ y ∧ y < ai S 198 4)) 0 4 1 S ?_ (Eqv.rf S) rfl (by decide) (fun S' h' e => mdl S' h' e 0 (fun z => absurd z hc))
    unfold f_X10_commonBytes
    rw [e_needUser h, ob_some, if_neg hc]
    by_cases c1 : 0 ≤ x ∧ x < ai S 198 4
    · rw [if_pos c1, lt_eq, sm_r, e_needUser h, ob_some, if_neg (fun z => hc ⟨c1, z⟩)]
      rfl
    · rw [if_neg c1]
      rfl
  · have hcc := hc
    obtain ⟨c1, c2⟩ := hcc
    rw [h.w.n4.1] at c1 c2
    obtain ⟨u, hu, rfl⟩ := ix (k := kN (ai S 198) 4) (by omega) c1
    obtain ⟨v, hv, rfl⟩ := ix (k := kN (ai S 198) 4) (by omega) c2
    obtain ⟨T, t1, t2, t3⟩ := e_gather (F := F) h (by omega)
    have eT := t2.e196
    have hT := h.eqv eT
    have cT : Cl0 T n 27 (ai S 198) (ai S 200) := by
      have := hT.c0
      rw [eT.net, eT.bytes] at this
      exact this
    refine askB h (fm := fun S => f_X11_commonBytes F S 197 (nI u) (nI v)) ((0 ≤ nI u ∧ nI u < ai S 198 4) ∧ (0 ≤ nI v ∧ nI v < ai S 198 4)) (cmN (ai S 198) u v (kN (ai S 198) 8)) 4 1 T ?_ eT rfl (by decide) (fun S' h' e => mdl S' h' e _ (fun _ => ?_))
    · unfold f_X10_commonBytes
      rw [e_needUser h, ob_some, if_pos hc.1, lt_eq, sm_r, e_needUser h, ob_some, if_pos hc.2, lt_eq, sm_r, hx.r905_0, ob_some, hx.r910_0, ob_some, t1, ob_some, if_pos hc]
      exact e_common hT.fx cT t3 hu hv (by omega)
    · have hU := h'.eqv (eqv_thr S' 0)
      have n1 : ai (ui S' 1000 197 0) 198 = ai S 198 := e.net
      have := m_common (F := F) (S := ui S' 1000 197 0) hU.fx (B := ai S 200) (by rw [n1]; exact h.w) (u := u) (v := v) (by omega) (by omega) (by omega)
      rw [n1] at this
      exact this
end A
