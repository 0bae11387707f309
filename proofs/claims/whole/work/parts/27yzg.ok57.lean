/-! writeMailbox -/
/-- each class has a name -/
theorem CR.nm {S : St} {r : Nat} {N : Nat → Int32} (h : CR S r N) {c : Nat} (hc : c < kN N 3) : ∃ k, nmL N c k := by
  obtain ⟨-, -, -, k, k1, k2, k3, -⟩ := h.2.2.1 c hc
  exact ⟨k, k1, k2, k3⟩
noncomputable def nmK (N : Nat → Int32) (c : Nat) : Nat := @dite Nat (∃ k, nmL N c k) (Classical.propDecidable _) (fun h => h.choose) (fun _ => 0)
theorem nmK_ok {N : Nat → Int32} {c : Nat} (h : ∃ k, nmL N c k) : nmL N c (nmK N c) := by
  unfold nmK
  rw [dif_pos h]
  exact h.choose_spec
/-- the mailbox, messages below x -/
noncomputable def mbN (N : Nat → Int32) (u x : Nat) : List Nat := runN (fun m l => pif (stN N m u = 0) (l ++ lnN N m u (nmK N (clK N m u))) l) x 0 []
theorem mbN_s {N : Nat → Int32} {u x : Nat} : mbN N u (x + 1) = pif (stN N x u = 0) (mbN N u x ++ lnN N x u (nmK N (clK N x u))) (mbN N u x) := by
  unfold mbN
  rw [runN_s, Nat.zero_add]
section Mb
variable {F : Nat} {S : St} {n : Nat} {N B : Nat → Int32} {u : Nat}
theorem mb_len (w : WB N B) (hu : u < kN N 4) (hn : ∀ c, c < kN N 3 → ∃ k, nmL N c k) : ∀ x, x ≤ kN N 7 → (mbN N u x).length ≤ 17 * x ∧ ∀ v ∈ mbN N u x, v < 128 := by
  have b4 := w.n4.2
  intro x
  induction x with
  | zero => intro _; exact ⟨Nat.le_refl _, fun v hv => by cases hv⟩
  | succ x ih =>
    intro hx
    obtain ⟨i1, i2⟩ := ih (by omega)
    obtain ⟨c1, -⟩ := clK_lt w (m := x) (by omega) hu
    have nm := nmK_ok (hn _ c1)
    rw [mbN_s]
    by_cases z : stN N x u = 0
    · rw [pif_t z, List.length_append]
      have := ln_len w (m := x) (u := u) (k := nmK N (clK N x u)) (by omega) (by omega) nm.1
      refine ⟨by omega, fun v hv => ?_⟩
      rcases List.mem_append.mp hv with h | h
      · exact i2 v h
      · exact ln_lt w (m := x) (by omega) (by omega) (fun i hi => nm.2.1.2 i hi) v h
    · rw [pif_f z]; exact ⟨by omega, i2⟩
theorem e_mail (hx : FxF S) (C : Cl0 S n 27 N B) (o : OC S []) (hu : u < kN N 4) (hn : ∀ c, c < kN N 3 → ∃ k, nmL N c k) (hF : 1000 ≤ F) : ∃ T, f_X10_writeMailbox_L15 F F S 0 (nI u) 0 = some (.inr (nI (mbN N u (kN N 7)).length), T) ∧ OcF S T ∧ OC T (mbN N u (kN N 7)) := by
  have w := C.wb
  have b7 := w.n7.2
  have cl : ∀ T, OcF S T → Cl0 T n 27 N B := fun T f => C.agr (Nat.le_refl _) (fun i hi => f.same (by omega) (by omega))
  have loop : ∀ d m fu T, m + d = kN N 7 → d < fu → OcF S T → OC T (mbN N u m) → ∃ T', f_X10_writeMailbox_L15 F fu T 0 (nI u) (nI m) = some (.inr (nI (mbN N u (kN N 7)).length), T') ∧ OcF S T' ∧ OC T' (mbN N u (kN N 7)) := by
    intro d
    induction d with
    | zero =>
      intro m fu T hk hfu f o
      obtain ⟨fu, rfl⟩ : ∃ f', fu = f' + 1 := ⟨fu - 1, by omega⟩
      have : m = kN N 7 := by omega
      subst this
      have hxT := f.fx hx
      refine ⟨T, ?_, f, o⟩
      unfold f_X10_writeMailbox_L15
      rw [hxT.r905_0, ob_some, (cl T f).s705, if_pos (nI_le (Nat.le_refl _) (by omega)), hxT.1 (901, 0, 22) (by decide), ob_some, o.1]
    | succ d ih =>
      intro m fu T hk hfu f o
      obtain ⟨fu, rfl⟩ : ∃ f', fu = f' + 1 := ⟨fu - 1, by omega⟩
      have hxT := f.fx hx
      have hm : m < kN N 7 := by omega
      obtain ⟨c1, -⟩ := clK_lt w (m := m) hm hu
      have nm := nmK_ok (hn _ c1)
      obtain ⟨len, -⟩ := mb_len w hu hn m (by omega)
      unfold f_X10_writeMailbox_L15
      rw [hxT.r905_0, ob_some, (cl T f).s705, if_neg (nI_ge (by omega) (by omega)), ob_some, e_state (cl T f) hxT.sp27 hm hu, ob_some]
      simp only [lt_eq]
      unfold f_X10_writeMailbox_L44
      by_cases z : stN N m u = 0
      · have l2 := ln_len w (m := m) (u := u) (k := nmK N (clK N m u)) hm (by have := w.n4.2; omega) nm.1
        obtain ⟨T1, q1, q2, q3⟩ := e_line (F := F) hxT (cl T f) o hm hu nm (by omega) hF
        have e : mbN N u (m + 1) = mbN N u m ++ lnN N m u (nmK N (clK N m u)) := by rw [mbN_s, pif_t z]
        rw [← e] at q3
        obtain ⟨T', r1, r2⟩ := ih (m + 1) fu T1 (by omega) (by omega) (f.tr q2) q3
        refine ⟨T', ?_, r2⟩
        rw [z, if_neg (fun y => y rfl), q1, ob_some, lt_eq, nI_1]
        exact r1
      · have e : mbN N u (m + 1) = mbN N u m := by rw [mbN_s, pif_f z]
        obtain ⟨T', r1, r2⟩ := ih (m + 1) fu T (by omega) (by omega) f (by rw [e]; exact o)
        refine ⟨T', ?_, r2⟩
        rw [if_pos z, lt_eq, nI_1]
        exact r1
  exact loop (kN N 7) 0 F S (by omega) (by omega) (OcF.rf S) o
theorem m_mail (hx : FxF S) (w : WB (ai S 198) B) (o : OM S []) (hu : u < kN (ai S 198) 4) (hn : ∀ c, c < kN (ai S 198) 3 → ∃ k, nmL (ai S 198) c k) (hF : 1000 ≤ F) : ∃ T, f_X11_writeMailbox_L21 F F S 197 (nI u) 0 = some (nI (mbN (ai S 198) u (kN (ai S 198) 7)).length, T) ∧ OmF S T ∧ OM T (mbN (ai S 198) u (kN (ai S 198) 7)) := by
  have b7 := w.n7.2
  have b4 := w.n4.2
  obtain ⟨N, hN⟩ : ∃ N, N = ai S 198 := ⟨_, rfl⟩
  rw [← hN] at hu hn b7 b4 w ⊢
  have loop : ∀ d m fu T, m + d = kN N 7 → d < fu → OmF S T → OM T (mbN N u m) → ∃ T', f_X11_writeMailbox_L21 F fu T 197 (nI u) (nI m) = some (nI (mbN N u (kN N 7)).length, T') ∧ OmF S T' ∧ OM T' (mbN N u (kN N 7)) := by
    intro d
    induction d with
    | zero =>
      intro m fu T hk hfu f o
      obtain ⟨fu, rfl⟩ : ∃ f', fu = f' + 1 := ⟨fu - 1, by omega⟩
      have : m = kN N 7 := by omega
      subst this
      have hxT := f.fx hx
      have nT : ai T 198 = N := (f.2.2.1 198 (by omega)).trans hN.symm
      refine ⟨T, ?_, f, o⟩
      unfold f_X11_writeMailbox_L21
      rw [hxT.r1001_197, ob_some, hxT.l198, show (7 : Int32) = nI 7 from rfl, cki_nI (by omega) (by omega), nI_clamp (by omega), nT, w.n7.1, if_pos (nI_le (Nat.le_refl _) (by omega)), o.1]
    | succ d ih =>
      intro m fu T hk hfu f o
      obtain ⟨fu, rfl⟩ : ∃ f', fu = f' + 1 := ⟨fu - 1, by omega⟩
      have hxT := f.fx hx
      have nT : ai T 198 = N := (f.2.2.1 198 (by omega)).trans hN.symm
      have hm : m < kN N 7 := by omega
      obtain ⟨c1, -⟩ := clK_lt w (m := m) hm hu
      have nm := nmK_ok (hn _ c1)
      obtain ⟨len, -⟩ := mb_len w hu hn m (by omega)
      unfold f_X11_writeMailbox_L21
      rw [hxT.r1001_197, ob_some, hxT.l198, show (7 : Int32) = nI 7 from rfl, cki_nI (by omega) (by omega), nI_clamp (by omega), nT, w.n7.1, if_neg (nI_ge (by omega) (by omega)), m_isLive hxT (by omega) (by omega), ob_some, nT]
      simp only [lt_eq, ne_bI]
      by_cases z : stN N m u = 0
      · have l2 := ln_len w (m := m) (u := u) (k := nmK N (clK N m u)) hm (by omega) nm.1
        obtain ⟨T1, q2, q3, q1⟩ := m_line (F := F) hxT (B := B) (by rw [nT]; exact w) o (m := m) (u := u) (k := nmK N (clK N m u)) (by rw [nT]; exact hm) (by rw [nT]; exact hu) (by rw [nT]; exact nm) (by rw [nT]; omega) hF
        rw [nT] at q3
        have e : mbN N u (m + 1) = mbN N u m ++ lnN N m u (nmK N (clK N m u)) := by rw [mbN_s, pif_t z]
        rw [← e] at q3
        obtain ⟨T', r1, r2⟩ := ih (m + 1) fu T1 (by omega) (by omega) (f.tr q2) q3
        refine ⟨T', ?_, r2⟩
        rw [if_pos z]
        refine (q1 (fun S44 => f_X11_writeMailbox_L99 F (fun a0 a1 a2 a3 => f_X11_writeMailbox_L21 F fu a0 a1 a2 a3) S44 197 (nI u) (nI m))).trans ?_
        unfold f_X11_writeMailbox_L99
        rw [lt_eq, nI_1]
        exact r1
      · have e : mbN N u (m + 1) = mbN N u m := by rw [mbN_s, pif_f z]
        obtain ⟨T', r1, r2⟩ := ih (m + 1) fu T (by omega) (by omega) f (by rw [e]; exact o)
        refine ⟨T', ?_, r2⟩
        rw [if_neg z]
        unfold f_X11_writeMailbox_L99
        rw [lt_eq, nI_1]
        exact r1
  exact loop (kN N 7) 0 F S (by omega) (by omega) (OmF.rf S) o
end Mb
section A
variable {F : Nat} {xs : Nat → Int32} {L : Nat} {S : St} {n : Nat} {i : Int32}
theorem ok_57 (hF : 100000 ≤ F) (h : Rel S n) (hi : ∀ k : Nat, k < 6 → vp_in (i + nI k) L) : Ok (f_law57 F xs L S n 0 197 210 211 i) := by
  have h1 : vp_in (i + 1) L := hi 1 (by omega)
  unfold f_law57 f_L_writeMailbox
  simp only [cki_t h1]
  generalize xs (Int32.toNatClampNeg (i + 1)) = x
  have hx := h.fx
  have b4 := h.w.n4.2
  have b7 := h.w.n7.2
  by_cases hc : 0 ≤ x ∧ x < ai S 198 4
  rotate_left
  · refine askB h (fm := fun S => f_X11_writeMailbox F S 197 x) (0 ≤ x ∧ x < ai S 198 4) 0 4 1 S ?_ (Eqv.rf S) rfl (by decide) (fun S' h' e => ?_)
    · unfold f_X10_writeMailbox
      rw [e_needUser h, ob_some, if_neg hc, if_neg hc]
      rfl
    · refine ⟨0, ui S' 1000 197 1, ?_, eqv_thr S' _, rfl, by rw [if_pos hc]; rfl, fun y => absurd y hc⟩
      unfold f_X11_writeMailbox
      rw [e_isUser h', ob_some, e.net]
      simp only [lt_eq]
      rw [e_passes, ob_some, show (if ¬ (0 ≤ x ∧ x < ai S 198 4) then (1 : Int32) else 0) = 1 from if_pos hc]
      simp only [lt_eq, ne_bI]
      rw [if_neg hc]
  · have hcc := hc
    rw [h.w.n4.1] at hcc
    obtain ⟨u, hu, rfl⟩ := ix (k := kN (ai S 198) 4) (by omega) hcc
    obtain ⟨r, -, -, hr⟩ := h.c0.ru
    have hn : ∀ c, c < kN (ai S 198) 3 → ∃ k, nmL (ai S 198) c k := fun c hc => hr.nm hc
    obtain ⟨len, all⟩ := mb_len h.w hu hn (kN (ai S 198) 7) (Nat.le_refl _)
    obtain ⟨l, hl⟩ : ∃ l, l = mbN (ai S 198) u (kN (ai S 198) 7) := ⟨_, rfl⟩
    -- the class
    obtain ⟨k, o1, o2, o3, o4⟩ := h.co
    obtain ⟨T0, p0, f0, e0⟩ : ∃ T0, f_X0_cutTo F S 22 0 = some T0 ∧ OcF S T0 ∧ OC T0 [] := by
      unfold f_X0_cutTo
      rw [if_neg (show ¬ (0 : Int32) < 0 by decide), o2]
      by_cases z : k = 0
      · rw [z, if_pos (by decide)]
        exact ⟨S, rfl, OcF.rf S, by rw [o2, z]; rfl, fun i hi => by cases hi⟩
      · rw [if_neg (show ¬ nI k ≤ 0 from nI_ge (a := 0) (by omega) (by omega))]
        exact ⟨ui S 1 22 0, rfl, ⟨fun _ _ => rfl, fun f i a => by rw [si_ui, if_neg a], fun _ _ => rfl, rfl, rfl, rfl⟩, by rw [si_ui, if_pos ⟨rfl, rfl⟩]; rfl, fun i hi => by cases hi⟩
    have C0 : Cl0 T0 n 27 (ai S 198) (ai S 200) := h.c0.agr (Nat.le_refl _) (fun i hi => f0.same (by omega) (by omega))
    obtain ⟨T1, p1, f1, e1⟩ := e_mail (F := F) (f0.fx hx) C0 e0 hu hn (by omega)
    rw [← hl] at p1 e1
    have f2 := f0.tr f1
    have hx1 := f2.fx hx
    obtain ⟨T2, hT2⟩ : ∃ T2, T2 = ual T1 210 0 (nI l.length).toInt64 := ⟨_, rfl⟩
    have s2 : ∀ f i, si T2 f i = si T1 f i := fun f i => by rw [hT2]; rfl
    have a2 : ∀ i, ai T2 i = ai T1 i := fun i => by rw [hT2]; rfl
    have hx2 : FxF T2 := hx1.agr (fun f i _ _ => by rw [hT2]; rfl) (fun i _ => by rw [hT2]; rfl) (by rw [hT2]; rfl)
    have n2 : ai T2 198 = ai S 198 := (a2 198).trans (f2.2.2.1 198 (by omega))
    -- the model
    obtain ⟨U0, hU0⟩ : ∃ U0, U0 = ui (ui T2 1000 197 0) 1029 197 0 := ⟨_, rfl⟩
    have xU : FxF U0 := hx2.agr (fun f i _ _ => by rw [hU0]; rfl) (fun i _ => by rw [hU0]; rfl) (by rw [hU0]; rfl)
    have nU : ai U0 198 = ai S 198 := by rw [hU0]; exact n2
    obtain ⟨U1, q1, g1, m1⟩ := m_mail (F := F) (S := U0) xU (B := ai S 200) (by rw [nU]; exact h.w) ⟨by rw [hU0, si_ui, if_pos ⟨rfl, rfl⟩]; rfl, fun i hi => by cases hi⟩ (u := u) (by rw [nU]; exact hu) (by rw [nU]; exact hn) (by omega)
    rw [nU, ← hl] at q1 m1
    have fm : f_X11_writeMailbox F T2 197 (nI u) = some (nI l.length, U1) := by
      unfold f_X11_writeMailbox
      have iu : f_X11_isUser F T2 197 (nI u) = some (bI (0 ≤ nI u ∧ nI u < ai S 198 4), T2) := by
        unfold f_X11_isUser
        rw [hx2.r1001_197, ob_some, hx2.l198, show (4 : Int32) = nI 4 from rfl, cki_nI (by omega) (by omega), nI_clamp (by omega), n2, h.w.n4.1, e_in0 F T2 _ (by omega), ob_some]
        simp only [lt_eq]
        rw [ck_t (bI01 _)]
      rw [iu, ob_some]
      simp only [lt_eq]
      rw [e_passes, ob_some, show (if ¬ (0 ≤ nI u ∧ nI u < ai S 198 4) then (1 : Int32) else 0) = 0 from if_neg (fun y => y hc)]
      simp only [lt_eq, ne_bI]
      rw [if_pos hc, ← hU0, q1]
    refine endL 0 (nI l.length) T2 U1 ?_ (fm := fun S => f_X11_writeMailbox F S 197 (nI u)) fm ?_ (fun _ => ?_) ?_
    · have fc : f_X10_writeMailbox F S 0 (nI u) = some (.inr (nI l.length), T1) := by
        unfold f_X10_writeMailbox
        rw [e_needUser h, ob_some, if_pos hc, lt_eq, sm_r, hx.1 (901, 0, 22) (by decide), ob_some, p0, ob_some, p1]
      rw [fc, ob_some]
      simp only [lt_eq, sm_r]
      rw [hx1.l210, cki_0 (by omega) (by omega), hT2]
      rfl
    · rw [g1.2.1 1000 197 (by omega), hU0, si_ui, if_neg (by omega)]
      exact th0 _ _
    · rw [g1.2.2.2.1, hU0]
      show al T2 210 0 = _
      rw [hT2, al_ual, if_pos ⟨rfl, rfl⟩]
    · have G0 : ∀ f i, ¬ (f = 1 ∧ i = 22) → ¬ (f = 1029 ∧ i = 197) → ¬ (f = 1000 ∧ i = 197) → si U1 f i = si S f i := fun f i a b c => by
        rw [g1.2.1 f i b, hU0, si_ui, if_neg b, si_ui, if_neg c, s2, f2.2.1 f i a]
      have G1 : ∀ i, ¬ i = 23 → ¬ i = 209 → ai U1 i = ai S i := fun i a b => by
        rw [g1.2.2.1 i b, hU0]
        show ai T2 i = _
        rw [a2, f2.2.2.1 i a]
      obtain ⟨ci, c1, c2, c3, c4⟩ := h.ci
      refine h.io (fun f i _ => ?_) (fun f i a _ _ b c => G0 f i b c (fun z => a (Or.inl (by rw [z.1, z.2]; decide)))) (fun i _ _ _ a b => G1 i a b) (fun i a => ?_) (fun i _ => ?_) ?_ ⟨ci, c1, by rw [G0 1 20 (by omega) (by omega) (by omega)]; exact c2, by rw [G0 1007 197 (by omega) (by omega) (by omega)]; exact c3, by rw [G1 21 (by omega) (by omega), G1 201 (by omega) (by omega)]; exact c4⟩ ⟨l.length, ?_, ?_, m1.1, fun j hj => ?_⟩
      · rw [g1.1, hU0]; show sr T2 f i = _; rw [hT2]; exact f2.1 f i
      · rw [g1.2.2.2.1, hU0]; show al T2 i = _; rw [hT2]
        funext k
        rw [al_ual, if_neg (fun z => a (by rw [z.1]; decide)), f2.2.2.2.1]
      · rw [g1.2.2.2.2.1, hU0]; show ar T2 i = _; rw [hT2]; show ar T1 i = _; rw [f2.2.2.2.2.1]
      · rw [g1.2.2.2.2.2, hU0]; show ln T2 = _; rw [hT2]; exact f2.2.2.2.2.2
      · rw [hl]; omega
      · rw [g1.2.1 1 22 (by omega), hU0, si_ui, if_neg (by omega), si_ui, if_neg (by omega), s2]
        exact e1.1
      · have mj : l.getD j 0 < 128 := by
          rw [List.getD_eq_getElem?_getD, List.getElem?_eq_getElem hj]
          exact all _ (by rw [← hl]; exact List.getElem_mem hj)
        rw [m1.2 j hj, g1.2.2.1 23 (by omega), hU0]
        have := e1.2 j hj
        refine ⟨?_, nI_le (a := 0) (by omega) (by omega), nI_le (b := 127) (by omega) (by omega)⟩
        show ai T2 23 j = _
        rw [a2]
        exact this
end A
