/-! delete -/
theorem seN_lo {L : (Nat → Int32) → Int32 → Int32 → Nat → Int32} {N : Nat → Int32} {m u k : Nat} {s a : Int32} (hL : isLg L) (b8 : kN N 8 ≤ 480) (h : k < 6211) (h9 : ¬ k = 9) (hd : ¬ xD k) : seN L N m u s a k = stS N m u s k := by
  unfold seN
  by_cases z : keptN (stS N m u s) m
  · rw [pif_t z]; exact (hL _ _ _).1 k h h9
  · rw [pif_f z]
    exact ((buryN_de (L := L) (P := dieP (stS N m u s) m) (N := L (stS N m u s) a (nI m)) (B := N) hL (kN N 8) b8).1 k h h9 hd).trans ((hL _ _ _).1 k h h9)
section Mc
variable {F : Nat} {S : St} {m u : Nat} {B : Nat → Int32} {L : (Nat → Int32) → Int32 → Int32 → Nat → Int32} {th : Int32}
/-- the state is written, the event too, and the parts are buried -/
theorem m_se (hT : isTh L th) (hx : FxF S) (ht : si S 1005 197 = th) (w : WB (ai S 198) B) (hm : m < kN (ai S 198) 7) (hu : u < kN (ai S 198) 4) {s : Int32} (hs : s = 1 ∨ s = 2 ∨ s = 3) (a : Int32) (hd : ∀ q, hasN (ai S 198) m q → deN (ai S 198) q = -1) (hF : 1000 ≤ F) :
    ∃ T1 T2, f_X11_log F (uai S 198 (1171 + 3 * (10 * m + u)) s) 197 a (nI m) = some T1 ∧ f_X11_buryParts F T1 197 (nI m) = some T2 ∧ Net S T2 ∧ ai T2 198 = seN L (ai S 198) m u s a ∧ WB (ai T2 198) B := by
  have b4 := w.n4.2
  have b7 := w.n7.2
  have b8 := w.n8.2
  obtain ⟨U, hU⟩ : ∃ U, U = uai S 198 (1171 + 3 * (10 * m + u)) s := ⟨_, rfl⟩
  have NU : Net S U := by rw [hU]; exact Net.uai _ _
  have uU : ai U 198 = stS (ai S 198) m u s := by
    funext k
    rw [hU, ai_uai]
    unfold stS upd
    by_cases z : k = 1171 + 3 * (10 * m + u)
    · rw [if_pos ⟨rfl, z⟩, if_pos z]
    · rw [if_neg (fun y => z y.2), if_neg z]
  have wU' : WB (ai U 198) B := by rw [uU]; exact w.st hm hu hs
  obtain ⟨T1, t1, t2, t3⟩ := m_logL (F := F) hT (NU.mfr.fx hx) ((NU.si 1005 197).trans ht) wU' a (nI m) hF
  have w1 : WB (ai T1 198) B := by rw [t3]; exact WB.lg hT.lg wU' _ _
  have n1 : ∀ k, k < 6211 → ¬ k = 9 → ai T1 198 k = stS (ai S 198) m u s k := fun k h h9 => by rw [t3, uU]; exact (hT.lg _ _ _).1 k h h9
  have E : EqX (fun k => k = 1171 + 3 * (10 * m + u)) (ai S 198) (ai T1 198) := fun k a b c => (n1 k a b).trans (stS_n c)
  have k7 : kN (ai T1 198) 7 = kN (ai S 198) 7 := E.kn (by omega) (by omega) (by omega)
  have k8 : kN (ai T1 198) 8 = kN (ai S 198) 8 := E.kn (by omega) (by omega) (by omega)
  obtain ⟨T2, r1, r2, r3⟩ := m_bury (F := F) hT (t2.mfr.fx (NU.mfr.fx hx)) ((t2.si 1005 197).trans ((NU.si 1005 197).trans ht)) w1 (m := m) (by omega) (fun q hq => by
    have h1 := (E.has (fun k z => by omega) (by omega) (w.wM m hm).2.2.2.1.2).mp hq
    obtain ⟨i, i1, i2⟩ := h1
    have q8 : q < kN (ai S 198) 8 := by rw [← i2]; exact ((w.wM m hm).2.2.2.2.2 i i1).2
    rw [E.de (fun k z => by omega) (by omega)]
    exact hd q ⟨i, i1, i2⟩) hF
  have E2 : EqX (fun _ => False) (stS (ai S 198) m u s) (ai T1 198) := fun k a b _ => n1 k a b
  have q7 : kN (stS (ai S 198) m u s) 7 = kN (ai S 198) 7 := by unfold kN; rw [stS_n (by omega)]
  have q4 : kN (stS (ai S 198) m u s) 4 = kN (ai S 198) 4 := by unfold kN; rw [stS_n (by omega)]
  have m4 : ∀ m', m' < kN (ai S 198) 7 → manyN (stS (ai S 198) m u s) m' ≤ 4 := fun m' h => by
    have : manyN (stS (ai S 198) m u s) m' = manyN (ai S 198) m' := by unfold manyN kN; rw [stS_n (by omega)]
    rw [this]; exact (w.wM m' h).2.2.2.1.2
  have kept : ∀ m', m' < kN (ai S 198) 7 → (keptN (ai T1 198) m' ↔ keptN (stS (ai S 198) m u s) m') := fun m' h => E2.kept (fun k z => z.elim) (by omega) (by rw [q4]; exact b4)
  have has : ∀ m' q, m' < kN (ai S 198) 7 → (hasN (ai T1 198) m' q ↔ hasN (stS (ai S 198) m u s) m' q) := fun m' q h => E2.has (fun k z => z.elim) (by omega) (m4 m' h)
  have die : ∀ q, dieP (ai T1 198) m q ↔ dieP (stS (ai S 198) m u s) m q := fun q => by
    unfold dieP
    rw [k7, q7, has m q hm]
    exact and_congr_right (fun _ => not_congr ⟨fun ⟨m', x1, x2, x3⟩ => ⟨m', x1, (has m' q x1).mp x2, (kept m' x1).mp x3⟩, fun ⟨m', x1, x2, x3⟩ => ⟨m', x1, (has m' q x1).mpr x2, (kept m' x1).mpr x3⟩⟩)
  have fin : ai T2 198 = seN L (ai S 198) m u s a := by
    have dP : dieP (ai T1 198) m = dieP (stS (ai S 198) m u s) m := funext fun q => propext (die q)
    rw [r3, pif_c (kept m hm), dP, k8]
    unfold seN
    rw [t3, uU]
  refine ⟨T1, T2, by rw [← hU]; exact t1, r1, (NU.tr t2).tr r2, fin, ?_⟩
  rw [r3]
  by_cases k : keptN (ai T1 198) m
  · rw [pif_t k]; exact w1
  · rw [pif_f k]
    exact (buryN_de (L := L) (P := dieP (ai T1 198) m) (N := ai T1 198) (B := B) hT.lg (kN (ai T1 198) 8) (by omega)).2.2.2 w1
theorem m_ceases (hT : isTh L th) (hx : FxF S) (ht : si S 1005 197 = th) (w : WB (ai S 198) B) (hm : m < kN (ai S 198) 7) (hu : u < kN (ai S 198) 4) {v : Int32} (hv : v = 1 ∨ v = 2 ∨ v = 3) (hd : ∀ q, hasN (ai S 198) m q → deN (ai S 198) q = -1) (hF : 1000 ≤ F) :
    ∃ S0 T, f_X11_ceases F S 197 (nI m) (nI u) v = some (stN (seN L (ai S 198) m u (if covN (ai S 198) (ai S 200) m u = 0 then 3 else v) (if covN (ai S 198) (ai S 200) m u = 0 then 4 else 5)) m u, T) ∧ Sc S S0 ∧ Net S0 T ∧ ai T 198 = seN L (ai S 198) m u (if covN (ai S 198) (ai S 200) m u = 0 then 3 else v) (if covN (ai S 198) (ai S 200) m u = 0 then 4 else 5) := by
  have b4 := w.n4.2
  have b7 := w.n7.2
  obtain ⟨S0, s1, s2⟩ := m_covers (F := F) hx w (m := m) (u := u) hm hF
  have hx0 := s2.fx hx
  have n0 : ai S0 198 = ai S 198 := s2.n
  have th0 : si S0 1005 197 = th := (s2.2.2.2.1.2.2.1 1005 (by omega)).trans ht
  have cl := cov_lt w (B := B) m u
  -- the rest, for a state and an event
  have rest : ∀ s a : Int32, (s = 1 ∨ s = 2 ∨ s = 3) → ∃ T, f_X11_ceases_L49 F (uai S0 198 (1171 + 3 * (10 * m + u)) s) 197 (nI m) (nI u) a 197 = some (stN (seN L (ai S 198) m u s a) m u, T) ∧ Net S0 T ∧ ai T 198 = seN L (ai S 198) m u s a := by
    intro s a hs
    obtain ⟨T1, T2, t1, t2, t3, t4, t5⟩ := m_se (F := F) (S := S0) (B := B) hT hx0 th0 (by rw [n0]; exact w) (m := m) (u := u) (by rw [n0]; exact hm) (by rw [n0]; exact hu) hs a (by rw [n0]; exact hd) hF
    rw [n0] at t4
    refine ⟨T2, ?_, t3, t4⟩
    unfold f_X11_ceases_L49
    rw [t1, ob_some, t2, ob_some, m_state (t3.mfr.fx hx0) (by omega) (by omega), ob_some, t4]
    simp only [lt_eq]
  have put : ∀ s0 : Int32, ∀ v4 : Int32, f_X11_ceases_L37 F S0 197 (nI m) (nI u) v4 s0 (nI (1171 + 3 * (10 * m + u)) + 0) 198 = if v4 = 0 then f_X11_ceases_L49 F (uai S0 198 (1171 + 3 * (10 * m + u)) s0) 197 (nI m) (nI u) 4 197 else f_X11_ceases_L49 F (uai S0 198 (1171 + 3 * (10 * m + u)) s0) 197 (nI m) (nI u) 5 197 := by
    intro s0 v4
    unfold f_X11_ceases_L37
    rw [Int32.add_zero, hx0.l198, cki_nI (by omega) (by omega), nI_clamp (by omega)]
    simp only [lt_eq]
  unfold f_X11_ceases
  rw [s1, ob_some]
  simp only [lt_eq]
  have cb : covN (ai S 198) (ai S 200) m u < 2 ^ 31 := by
    have h := bits_lt (covP (ai S 198) (ai S 200) m u) (kN (ai S 198) 6)
    have := w.n6.2
    have : 2 ^ kN (ai S 198) 6 ≤ 2 ^ 6 := Nat.pow_le_pow_right (by omega) this
    unfold covN
    omega
  by_cases c : covN (ai S 198) (ai S 200) m u = 0
  · rw [c, if_pos (show (0 : Nat) = 0 from rfl), if_pos (show (0 : Nat) = 0 from rfl), if_pos (show nI 0 = 0 from rfl)]
    obtain ⟨T, t1, t2, t3⟩ := rest 3 4 (Or.inr (Or.inr rfl))
    refine ⟨S0, T, ?_, s2, t2, t3⟩
    unfold f_X11_ceases_L14
    rw [hx0.r1001_197, ob_some, m_refAt, ob_some]
    simp only [lt_eq]
    rw [if_pos True.intro, put, if_pos rfl]
    exact t1
  · rw [if_neg (show ¬ nI (covN (ai S 198) (ai S 200) m u) = 0 from fun z => c ((nI_eq (b := 0) (by omega) (by omega)).mp z)), if_neg c, if_neg c]
    obtain ⟨T, t1, t2, t3⟩ := rest v 5 hv
    refine ⟨S0, T, ?_, s2, t2, t3⟩
    unfold f_X11_ceases_L14
    rw [hx0.r1001_197, ob_some, m_refAt, ob_some]
    simp only [lt_eq]
    rw [if_neg (show ¬ (1 : Int32) = 0 by decide), put, if_neg (show ¬ (1 : Int32) = 0 by decide)]
    exact t1
end Mc
theorem m_delete0 {F : Nat} {S : St} {B : Nat → Int32} (hx : FxF S) (w : WB (ai S 198) B) (x y : Int32) (h : ¬ (isR (ai S 198) x y ∧ livX (ai S 198) x y)) : f_X11_delete F S 197 x y = some (0, ui S 1000 197 (if ¬ isR (ai S 198) x y then 1 else if ¬ livX (ai S 198) x y then 2 else 0)) := by
  have b7 := w.n7.2
  have b4 := w.n4.2
  unfold f_X11_delete
  rw [m_isRef hx w, ob_some]
  simp only [lt_eq]
  rw [m_isRef hx w, ob_some]
  simp only [eq_bI, lt_eq]
  by_cases c : isR (ai S 198) x y
  · obtain ⟨m, u, hm, hu, rfl, rfl, -⟩ := isR_of w c
    have c2 : ¬ livX (ai S 198) (nI m) (nI u) := fun z => h ⟨c, z⟩
    have c3 : ¬ stN (ai S 198) m u = 0 := by
      unfold livX at c2
      rw [nI_clamp (by omega), nI_clamp (by omega)] at c2
      exact c2
    rw [if_pos c, m_isLive hx (by omega) (by omega), ob_some]
    simp only [lt_eq, eq_bI]
    rw [if_neg c3]
    unfold f_X11_delete_L30
    rw [show f_X11_passes2 F S 197 (bI (isR (ai S 198) (nI m) (nI u))) 0 = some (bI (isR (ai S 198) (nI m) (nI u) ∧ False), ui S 1000 197 (if ¬ isR (ai S 198) (nI m) (nI u) then 1 else if ¬ False then 2 else 0)) from e_passes2 F S _ False, ob_some]
    simp only [lt_eq, ne_bI]
    rw [if_neg (show ¬ (isR (ai S 198) (nI m) (nI u) ∧ False) from fun z => z.2), if_neg (show ¬ ¬ isR (ai S 198) (nI m) (nI u) from fun z => z c), if_neg (show ¬ ¬ isR (ai S 198) (nI m) (nI u) from fun z => z c), if_pos (show ¬ False from fun z => z), if_pos c2]
  · rw [if_neg c]
    unfold f_X11_delete_L25 f_X11_delete_L30
    rw [show f_X11_passes2 F S 197 (bI (isR (ai S 198) x y)) 1 = some (bI (isR (ai S 198) x y ∧ True), ui S 1000 197 (if ¬ isR (ai S 198) x y then 1 else if ¬ True then 2 else 0)) from e_passes2 F S _ True, ob_some]
    simp only [lt_eq, ne_bI]
    rw [if_neg (show ¬ (isR (ai S 198) x y ∧ True) from fun z => c z.1), if_pos (show ¬ isR (ai S 198) x y from c), if_pos (show ¬ isR (ai S 198) x y from c)]
section A
variable {F : Nat} {xs : Nat → Int32} {L : Nat} {S : St} {n : Nat} {i : Int32}
theorem ok_40 (hF : 100000 ≤ F) (h : Rel S n) (hi : ∀ k : Nat, k < 6 → vp_in (i + nI k) L) : Ok (f_law40 F xs L S n 0 197 210 211 i) := by
  have h1 : vp_in (i + 1) L := hi 1 (by omega)
  have h2 : vp_in (i + 2) L := hi 2 (by omega)
  unfold f_law40 f_L_delete
  simp only [cki_t h1, cki_t h2]
  generalize xs (Int32.toNatClampNeg (i + 1)) = x
  generalize xs (Int32.toNatClampNeg (i + 2)) = y
  have b4 := h.w.n4.2
  have b7 := h.w.n7.2
  have hx := h.fx
  by_cases hc : isR (ai S 198) x y ∧ livX (ai S 198) x y
  rotate_left
  · refine askC h (fm := fun S => f_X11_delete F S 197 x y) (isR (ai S 198) x y) (livX (ai S 198) x y) 0 4 1 S ?_ (Eqv.rf S) rfl rfl (fun S' h' e => ?_)
    · unfold f_X10_delete
      rw [e_needRef h, ob_some]
      by_cases c1 : isR (ai S 198) x y
      · obtain ⟨m, u, hm, hm2, hu, hu2, rfl, rfl⟩ := ixR h c1
        have c2 : ¬ livX (ai S 198) (nI m) (nI u) := fun z => hc ⟨c1, z⟩
        have c3 : ¬ stN (ai S 198) m u = 0 := by
          unfold livX at c2
          rw [nI_clamp (by omega), nI_clamp (by omega)] at c2
          exact c2
        rw [if_pos c1, if_pos c1, lt_eq, sm_r, e_needLive h hm hu, ob_some, if_neg c3, if_neg c2]
        rfl
      · rw [if_neg c1, if_neg c1]
        rfl
    · have e1 := m_delete0 (F := F) h'.fx h'.w x y (by rw [e.net]; exact hc)
      rw [e.net] at e1
      exact ⟨_, _, e1, eqv_thr S' _, rfl, rfl, fun p q => absurd ⟨p, q⟩ hc⟩
  · obtain ⟨c1, c2⟩ := hc
    obtain ⟨m, u, hm, hm2, hu, hu2, rfl, rfl⟩ := ixR h c1
    have c3 : stN (ai S 198) m u = 0 := by
      unfold livX at c2
      rw [nI_clamp (by omega), nI_clamp (by omega)] at c2
      exact c2
    obtain ⟨hh, ff, Ns, Bs, rc, rm, rx⟩ := h.parts
    obtain ⟨T1, t1, t2, t3, t4, t5, t6, t7⟩ := rc.rem (F := F) (by omega)
    have hx1 := t2.2.1
    have g1 := t2.2.2.2
    obtain ⟨T2, p1, p2, p3, p4, p5⟩ := e_endRef (F := F) (v := 1) g1 (by omega) hx1.sp27 hm hu (Int32.ge01 c3) (Or.inl rfl) (Or.inr (Or.inl rfl)) (by omega)
    obtain ⟨M, hM⟩ : ∃ M, M = seN lgN (ai S 198) m u (if covN (ai S 198) (ai S 200) m u = 0 then 3 else 1) (if covN (ai S 198) (ai S 200) m u = 0 then 4 else 5) := ⟨_, rfl⟩
    rw [← hM] at p2
    obtain ⟨q0, hq0⟩ : ∃ q0, q0 = stN M m u := ⟨_, rfl⟩
    have hx2 : FxF T2 := hx1.agr (fun f i _ _ => p4 f i) (fun i _ => by rw [p5]) (p3 69 (by omega) (by omega) (by omega) (by omega) (by omega)).2.2.2.2.1
    have b8 := h.w.n8.2
    have kM : kN M 7 = kN (ai S 198) 7 ∧ kN M 4 = kN (ai S 198) 4 := by
      rw [hM]
      exact ⟨by unfold kN; rw [seN_lo isLg_lg (by omega) (by omega) (by omega) (by unfold xD; omega), stS_n (by omega)], by unfold kN; rw [seN_lo isLg_lg (by omega) (by omega) (by omega) (by unfold xD; omega), stS_n (by omega)]⟩
    have fc : f_X10_delete F S 0 (nI m) (nI u) = some (.inr q0, T2) := by
      unfold f_X10_delete
      rw [e_needRef h, ob_some, if_pos c1, lt_eq, sm_r, e_needLive h hm hu, ob_some, if_pos c3, lt_eq, sm_r, t1, ob_some, hx1.r905_0, ob_some, p1, ob_some, hx2.r905_0, ob_some, e_state p2.c0 hx2.sp27 (by rw [kM.1]; exact hm) (by rw [kM.2]; exact hu), ob_some, hq0]
      simp only [lt_eq]
    have rc2 : RC T2 n (hN hh) (fN hh ff) (setF Ns (tN hh ff) (ai S 198)) (setF Bs (tN hh ff) (ai S 200)) M (ai S 200) :=
      ⟨t2.1, hx2, t2.2.2.1.agr (Nat.le_refl _) (fun k hk => p3 k (by omega) (by omega) (by omega) (by omega) (by omega)) ((p3 0 (by omega) (by omega) (by omega) (by omega) (by omega)).1 _) ((p3 0 (by omega) (by omega) (by omega) (by omega) (by omega)).1 _), p2⟩
    have cf2 : CFr n S T2 := t3.tr (n' := n) ⟨fun k _ _ hk _ _ _ => p3 k (by omega) (by omega) (by omega) (by omega) (by omega), fun _ _ _ => (p3 0 (by omega) (by omega) (by omega) (by omega) (by omega)).1 _⟩ (Nat.le_refl _)
    obtain ⟨S1, hS1⟩ : ∃ S1, S1 = ual T2 210 0 q0.toInt64 := ⟨_, rfl⟩
    have rc3 := rc2.out 0 q0.toInt64
    have cf3 : CFr n S S1 := by rw [hS1]; exact cf2.tr (n' := n) (CFr.out n T2 0 _) (Nat.le_refl _)
    rw [← hS1] at rc3
    have rx3 := rx.cfr cf3 h.hn
    have hx3 := rc3.2.1
    have n1 : ai S1 198 = ai S 198 := (cf3.1 198 (by have := h.hn; omega) (by omega) (by omega) (by omega) (by omega) (by omega)).row
    have w1 : WB (ai S1 198) (ai S 200) := by rw [n1]; exact h.w
    obtain ⟨U1, u1, u2, m1, hxU, u4, u5, u6⟩ := mutM h rc rm cf3 hx3 (MSc.thr S1 0) hF
    obtain ⟨U0, U2, v1, v2, v3, v4⟩ := m_ceases (F := F) (S := U1) (B := ai S 200) (L := lgN) (th := 0) (m := m) (u := u) (v := 1) (Or.inl ⟨rfl, rfl⟩) hxU u2.2.2.2.1 (by rw [u4]; exact h.w) (by rw [u4]; exact hm) (by rw [u4]; exact hu) (Or.inl rfl) (fun q hq => by
      rw [u4] at hq ⊢
      have hq' := hq
      obtain ⟨i, i1, i2⟩ := hq'
      exact (h.c0.wf.link (by rw [← i2]; exact ((h.w.wM m hm).2.2.2.2.2 i i1).2)).mpr ⟨m, hm, hq, u, hu, Int32.ge01 c3⟩) (by omega)
    rw [u4, u5, ← hM] at v1 v4
    have fm : f_X11_delete F S1 197 (nI m) (nI u) = some (q0, U2) := by
      unfold f_X11_delete
      rw [m_isRef hx3 w1, ob_some]
      simp only [lt_eq]
      rw [m_isRef hx3 w1, ob_some]
      simp only [lt_eq, eq_bI]
      rw [n1, if_pos c1, m_isLive hx3 hm2 hu2, ob_some, n1]
      simp only [lt_eq, eq_bI]
      rw [if_pos c3]
      unfold f_X11_delete_L25 f_X11_delete_L30
      rw [show f_X11_passes2 F S1 197 (bI (isR (ai S 198) (nI m) (nI u))) 1 = some (bI (isR (ai S 198) (nI m) (nI u) ∧ True), ui S1 1000 197 (if ¬ isR (ai S 198) (nI m) (nI u) then 1 else if ¬ True then 2 else 0)) from e_passes2 F S1 _ True, ob_some]
      simp only [lt_eq, ne_bI]
      rw [if_pos (show isR (ai S 198) (nI m) (nI u) ∧ True from ⟨c1, True.intro⟩), if_neg (show ¬ ¬ isR (ai S 198) (nI m) (nI u) from fun z => z c1), if_neg (show ¬ ¬ True from fun z => z True.intro), u1, ob_some, v1, ob_some, hq0]
    have mU : MFr S1 U2 := (m1.tr v2.2.2.2.1).tr v3.mfr
    have rmU : RM U2 (hN hh) (fN hh ff) (setF Ns (tN hh ff) (ai S 198)) (setF Bs (tN hh ff) (ai S 200)) M (ai S 200) := by
      have r0 := u2.ms v2.ms
      refine r0.net (fun k _ => by rw [v4]) ?_ (v3.row (by omega)) (v3.row (by omega)) (v3.si _ _) (v3.si _ _) (v3.si _ _) (v3.1 _ _)
      rw [v3.row (by omega), v2.b, u5]
      exact EqB.rf _ _
    refine endM q0 T2 U2 ?_ (fm := fun S => f_X11_delete F S 197 (nI m) (nI u)) (by rw [← hS1]; exact fm) ?_ ?_ (Rel.of (rc3.mfr mU) rmU (rx3.mfr mU))
    · rw [fc, ob_some]
      simp only [lt_eq, sm_r]
      rw [hx2.l210, cki_0 (by omega) (by omega)]
      rfl
    · rw [v3.si, v2.2.2.1, u6]
      exact th0 _ _
    · rw [← hS1, mU.2.2.2.2.1]
end A
