/-! file -/
theorem Int32.ge01 {v : Int32} (h : v = 0) : 0 ≤ v ∧ v ≤ 2 := by subst h; decide
theorem m_enter {F : Nat} {S : St} {m u : Nat} (hx : FxF S) (hm : m < 120) (hu : u < 10) (v : Int32) : f_X11_enter F S 197 (nI m) (nI u) v = some (uai (uai S 198 (1172 + 3 * (10 * m + u)) v) 198 (1173 + 3 * (10 * m + u)) (ai S 198 2)) := by
  have hxV : FxF (uai S 198 (1172 + 3 * (10 * m + u)) v) := (MFr.uai v (by omega)).fx hx
  unfold f_X11_enter
  rw [hx.r1001_197, ob_some, m_refAt, ob_some]
  simp only [lt_eq]
  rw [hx.l198, show (1 : Int32) = nI 1 from rfl, nI_add, show 1171 + 3 * (10 * m + u) + 1 = 1172 + 3 * (10 * m + u) by omega, cki_nI (by omega) (by omega), nI_clamp (by omega), hxV.r1001_197, ob_some, m_refAt, ob_some, hxV.r1001_197, ob_some, hxV.l198, show (2 : Int32) = nI 2 from rfl, nI_add, show 1171 + 3 * (10 * m + u) + 2 = 1173 + 3 * (10 * m + u) by omega, cki_nI (by omega) (by omega), cki_nI (by omega) (by omega), nI_clamp (by omega), nI_clamp (by omega), ai_uai, if_neg (by omega)]
theorem e_enter {F : Nat} {S : St} {p n m u : Nat} {N B : Nat → Int32} (C : Cl0 S n p N B) (hs : SpF S p) (hm : m < 120) (hu : u < 10) (v : Int32) : f_X8_enterClass F S p (nI m) (nI u) v = some (uai (uai S (p + 4) (10 * m + u) v) (p + 5) (10 * m + u) (N 2)) := by
  unfold f_X8_enterClass
  rw [hs.r708_0, ob_some, show (10 : Int32) = nI 10 from rfl, nI_mul, nI_add, show m * 10 + u = 10 * m + u by omega, e_put _ (by rw [hs.l4]; omega) (by rw [hs.l4]; omega), ob_some, sr_uai, hs.r709_0, ob_some, si_uai, C.s701, e_put _ (by rw [ln_uai, hs.l5]; omega) (by rw [ln_uai, hs.l5]; omega), ob_some]
abbrev livX (N : Nat → Int32) (x y : Int32) : Prop := stN N x.toNatClampNeg y.toNatClampNeg = 0
abbrev isC (N : Nat → Int32) (z : Int32) : Prop := 0 ≤ z ∧ z < N 3
/-- the model's way to its check -/
theorem m_file {F : Nat} {S : St} {B : Nat → Int32} {P Q : Prop} [Decidable P] [Decidable Q] (hx : FxF S) (w : WB (ai S 198) B) (x y z : Int32) (hC : f_X11_isClass F S 197 z = some (bI (isC (ai S 198) z), S)) (hP : P ↔ isC (ai S 198) z ∧ isR (ai S 198) x y) (hQ : P → (Q ↔ livX (ai S 198) x y)) :
    ∃ q : Int32, f_X11_file F S 197 x y z = f_X11_file_L46 F S 197 x y z q (bI P) 197 ∧ (P → q = bI Q) ∧ (q = 0 ∨ q = 1) := by
  have b7 := w.n7.2
  have b4 := w.n4.2
  unfold f_X11_file
  rw [hC, ob_some]
  simp only [lt_eq, eq_bI]
  have L : ∀ s0 : Int32, ∃ q : Int32, f_X11_file_L23 F S 197 x y z s0 197 = f_X11_file_L46 F S 197 x y z q s0 197 ∧ (isR (ai S 198) x y → q = bI (livX (ai S 198) x y)) ∧ (q = 0 ∨ q = 1) := by
    intro s0
    unfold f_X11_file_L23
    rw [m_isRef hx w, ob_some]
    simp only [lt_eq, eq_bI]
    by_cases c : isR (ai S 198) x y
    · obtain ⟨m, u, hm, hu, rfl, rfl, -⟩ := isR_of w c
      rw [if_pos c, m_isLive hx (by omega) (by omega), ob_some]
      simp only [lt_eq, eq_bI]
      have e : livX (ai S 198) (nI m) (nI u) ↔ stN (ai S 198) m u = 0 := by
        unfold livX
        rw [nI_clamp (by omega), nI_clamp (by omega)]
      by_cases c2 : stN (ai S 198) m u = 0
      · rw [if_pos c2]
        refine ⟨1, rfl, fun _ => ?_, Or.inr rfl⟩
        unfold bI
        rw [if_pos (e.mpr c2)]
      · rw [if_neg c2]
        refine ⟨0, rfl, fun _ => ?_, Or.inl rfl⟩
        unfold bI
        rw [if_neg (fun z => c2 (e.mp z))]
    · rw [if_neg c]
      exact ⟨1, rfl, fun z => absurd z c, Or.inr rfl⟩
  have fin : ∀ s0 : Int32, s0 = bI P → ∃ q : Int32, f_X11_file_L23 F S 197 x y z s0 197 = f_X11_file_L46 F S 197 x y z q (bI P) 197 ∧ (P → q = bI Q) ∧ (q = 0 ∨ q = 1) := by
    intro s0 hs
    obtain ⟨q, l1, l2, l3⟩ := L s0
    refine ⟨q, by rw [l1, hs], fun hp => ?_, l3⟩
    rw [l2 (hP.mp hp).2]
    unfold bI
    by_cases c : livX (ai S 198) x y
    · rw [if_pos c, if_pos ((hQ hp).mpr c)]
    · rw [if_neg c, if_neg (fun z => c ((hQ hp).mp z))]
  by_cases c : isC (ai S 198) z
  · rw [if_pos c, m_isRef hx w, ob_some]
    simp only [lt_eq, eq_bI]
    by_cases c2 : isR (ai S 198) x y
    · rw [if_pos c2]
      exact fin 1 (by unfold bI; rw [if_pos (hP.mpr ⟨c, c2⟩)])
    · rw [if_neg c2]
      unfold f_X11_file_L22
      exact fin 0 (by unfold bI; rw [if_neg (fun z => c2 (hP.mp z).2)])
  · rw [if_neg c]
    unfold f_X11_file_L22
    exact fin 0 (by unfold bI; rw [if_neg (fun z => c (hP.mp z).1)])
theorem e_needLive {F : Nat} {S : St} {n m u : Nat} (h : Rel S n) (hm : m < kN (ai S 198) 7) (hu : u < kN (ai S 198) 4) : f_X10_needLive F S 0 (nI m) (nI u) = some (if stN (ai S 198) m u = 0 then .inr () else .inl 1, S) := by
  have b4 := h.w.n4.2
  unfold f_X10_needLive
  rw [h.fx.r905_0, ob_some, e_state h.c0 h.fx.sp27 hm (by omega), ob_some]
  simp only [lt_eq]
  by_cases c : stN (ai S 198) m u = 0
  · rw [if_pos c, if_pos c]
  · rw [if_neg c, if_neg c]
section A
variable {F : Nat} {xs : Nat → Int32} {L : Nat} {S : St} {n : Nat} {i : Int32}
theorem ok_39 (hF : 100000 ≤ F) (h : Rel S n) (hi : ∀ k : Nat, k < 6 → vp_in (i + nI k) L) : Ok (f_law39 F xs L S n 0 197 210 211 i) := by
  have h1 : vp_in (i + 1) L := hi 1 (by omega)
  have h2 : vp_in (i + 2) L := hi 2 (by omega)
  have h3 : vp_in (i + 3) L := hi 3 (by omega)
  unfold f_law39 f_L_file
  simp only [cki_t h1, cki_t h2, cki_t h3]
  generalize xs (Int32.toNatClampNeg (i + 1)) = x
  generalize xs (Int32.toNatClampNeg (i + 2)) = y
  generalize xs (Int32.toNatClampNeg (i + 3)) = z
  have b4 := h.w.n4.2
  have b7 := h.w.n7.2
  have hx := h.fx
  -- what the class does first
  have fc0 : ∀ m u : Nat, m < kN (ai S 198) 7 → u < kN (ai S 198) 4 → isC (ai S 198) z → isR (ai S 198) (nI m) (nI u) → stN (ai S 198) m u = 0 → f_X10_file F S 0 (nI m) (nI u) z = if ¬ (clN (ai S 198) m u = z ∧ enN (ai S 198) m u = ai S 198 2) then f_X10_file_L60 F S 0 (nI m) (nI u) z (clN (ai S 198) m u) else some (.inr (clN (ai S 198) m u), S) := by
    intro m u hm hu c1 c2 c3
    unfold f_X10_file
    rw [e_needClass h, ob_some, if_pos c1, lt_eq, sm_r, e_needRef h, ob_some, if_pos c2, lt_eq, sm_r, e_needLive h hm hu, ob_some, if_pos c3, lt_eq, sm_r, hx.r905_0, ob_some, e_retOf h.c0 hx.sp27 hm hu, ob_some]
    simp only [lt_eq]
    by_cases c4 : clN (ai S 198) m u = z
    · rw [if_neg (show ¬ ¬ clN (ai S 198) m u = z from fun y => y c4), hx.r905_0, ob_some, hx.sp27.r709_0, ob_some, e_entOf h.c0 hx.sp27 hm (by omega), ob_some]
      simp only [lt_eq]
      rw [hx.r905_0, ob_some, h.c0.s701]
      by_cases c5 : enN (ai S 198) m u = ai S 198 2
      · rw [if_pos c5, if_neg (fun y => y ⟨c4, c5⟩)]
      · rw [if_neg c5, if_pos (fun y => c5 y.2)]
    · rw [if_pos (show ¬ clN (ai S 198) m u = z from c4), if_pos (fun y => c4 y.1)]
  -- what the model does first
  have fm0 : ∀ T : St, FxF T → ai T 198 = ai S 198 → ∀ m u : Nat, m < 120 → u < 10 → ∀ P Q : Prop, [Decidable P] → [Decidable Q] → P → Q → f_X11_file_L46 F T 197 (nI m) (nI u) z (bI Q) (bI P) 197 = if ¬ (clN (ai S 198) m u = z ∧ enN (ai S 198) m u = ai S 198 2) then f_X11_file_L98 F (ui T 1000 197 0) 197 (nI m) (nI u) z (clN (ai S 198) m u) else some (clN (ai S 198) m u, ui T 1000 197 0) := by
    intro T hT a8 m u hm hu P Q _ _ p q
    have hV : FxF (ui T 1000 197 0) := fx_thr hT 0
    have a9 : ai (ui T 1000 197 0) 198 = ai S 198 := a8
    unfold f_X11_file_L46
    rw [e_passes2, ob_some]
    simp only [lt_eq, ne_bI]
    rw [if_pos (show P ∧ Q from ⟨p, q⟩), if_neg (show ¬ ¬ P from fun y => y p), if_neg (show ¬ ¬ Q from fun y => y q), hV.r1001_197, ob_some, m_refAt, ob_some]
    simp only [lt_eq]
    rw [hV.l198, show (1 : Int32) = nI 1 from rfl, nI_add, show 1171 + 3 * (10 * m + u) + 1 = 1172 + 3 * (10 * m + u) by omega, cki_nI (by omega) (by omega), nI_clamp (by omega), a9, show ai S 198 (1172 + 3 * (10 * m + u)) = clN (ai S 198) m u from rfl]
    by_cases c4 : clN (ai S 198) m u = z
    · rw [if_neg (show ¬ ¬ clN (ai S 198) m u = z from fun y => y c4), hV.r1001_197, ob_some, m_refAt, ob_some]
      simp only [lt_eq]
      rw [hV.l198, show (2 : Int32) = nI 2 from rfl, nI_add, show 1171 + 3 * (10 * m + u) + 2 = 1173 + 3 * (10 * m + u) by omega, cki_nI (by omega) (by omega), hV.r1001_197, ob_some, hV.l198, cki_nI (by omega) (by omega), nI_clamp (by omega), nI_clamp (by omega), a9, show ai S 198 (1173 + 3 * (10 * m + u)) = enN (ai S 198) m u from rfl]
      by_cases c5 : enN (ai S 198) m u = ai S 198 2
      · rw [if_neg (show ¬ ¬ enN (ai S 198) m u = ai S 198 2 from fun y => y c5), if_neg (fun y => y ⟨c4, c5⟩)]
      · rw [if_pos (show ¬ enN (ai S 198) m u = ai S 198 2 from c5), if_pos (fun y => c5 y.2)]
    · rw [if_pos (show ¬ clN (ai S 198) m u = z from c4), if_pos (fun y => c4 y.1)]
  by_cases hc : (isC (ai S 198) z ∧ isR (ai S 198) x y) ∧ livX (ai S 198) x y ∧ ¬ (clN (ai S 198) x.toNatClampNeg y.toNatClampNeg = z ∧ enN (ai S 198) x.toNatClampNeg y.toNatClampNeg = ai S 198 2)
  rotate_left
  · refine askC h (fm := fun S => f_X11_file F S 197 x y z) (isC (ai S 198) z ∧ isR (ai S 198) x y) (livX (ai S 198) x y) (clN (ai S 198) x.toNatClampNeg y.toNatClampNeg) 4 1 S ?_ (Eqv.rf S) rfl rfl (fun S' h' e => ?_)
    · by_cases c1 : isC (ai S 198) z
      · by_cases c2 : isR (ai S 198) x y
        · obtain ⟨m, u, hm, hm2, hu, hu2, rfl, rfl⟩ := ixR h c2
          have e : livX (ai S 198) (nI m) (nI u) ↔ stN (ai S 198) m u = 0 := by
            unfold livX
            rw [nI_clamp (by omega), nI_clamp (by omega)]
          rw [if_pos (show isC (ai S 198) z ∧ isR (ai S 198) (nI m) (nI u) from ⟨c1, c2⟩)]
          by_cases c3 : stN (ai S 198) m u = 0
          · rw [fc0 m u hm hu c1 c2 c3, if_pos (show livX (ai S 198) (nI m) (nI u) from e.mpr c3), nI_clamp (by omega), nI_clamp (by omega)]
            rw [nI_clamp (by omega), nI_clamp (by omega)] at hc
            rw [if_neg (fun y => hc ⟨⟨c1, c2⟩, e.mpr c3, y⟩)]
          · unfold f_X10_file
            rw [e_needClass h, ob_some, if_pos c1, lt_eq, sm_r, e_needRef h, ob_some, if_pos c2, lt_eq, sm_r, e_needLive h hm hu, ob_some, if_neg c3, if_neg (fun y => c3 (e.mp y))]
            rfl
        · rw [if_neg (fun y => c2 y.2)]
          unfold f_X10_file
          rw [e_needClass h, ob_some, if_pos c1, lt_eq, sm_r, e_needRef h, ob_some, if_neg c2]
          rfl
      · rw [if_neg (fun y => c1 y.1)]
        unfold f_X10_file
        rw [e_needClass h, ob_some, if_neg c1]
        rfl
    · have n8 := e.net
      obtain ⟨q, q1, q2, q3⟩ := m_file (F := F) (P := isC (ai S 198) z ∧ isR (ai S 198) x y) (Q := livX (ai S 198) x y) h'.fx h'.w x y z (by have := e_isClass (F := F) h' z; rw [n8] at this ⊢; exact this) (by rw [n8]) (fun _ => by rw [n8])
      by_cases cp : isC (ai S 198) z ∧ isR (ai S 198) x y
      · have cp' := cp
        obtain ⟨m, u, hm, hm2, hu, hu2, rfl, rfl⟩ := ixR h cp'.2
        by_cases cq : livX (ai S 198) (nI m) (nI u)
        · have cm : clN (ai S 198) m u = z ∧ enN (ai S 198) m u = ai S 198 2 := by
            rw [nI_clamp (by omega), nI_clamp (by omega)] at hc
            exact Classical.not_not.mp (fun y => hc ⟨cp, cq, y⟩)
          refine ⟨clN (ai S 198) m u, ui S' 1000 197 0, ?_, eqv_thr S' _, rfl, ?_, fun _ _ => by rw [nI_clamp (by omega), nI_clamp (by omega)]⟩
          · show f_X11_file F S' 197 (nI m) (nI u) z = _
            rw [q1, q2 cp, fm0 S' h'.fx n8 m u hm2 hu2 _ _ cp cq, if_neg (fun y => y cm)]
          · rw [if_neg (show ¬ ¬ (isC (ai S 198) z ∧ isR (ai S 198) (nI m) (nI u)) from fun y => y cp), if_neg (show ¬ ¬ livX (ai S 198) (nI m) (nI u) from fun y => y cq)]
            exact th0 _ _
        · refine ⟨0, ui S' 1000 197 2, ?_, eqv_thr S' _, rfl, ?_, fun _ z => absurd z cq⟩
          · show f_X11_file F S' 197 (nI m) (nI u) z = _
            rw [q1, q2 cp]
            unfold f_X11_file_L46
            rw [e_passes2, ob_some]
            simp only [lt_eq, ne_bI]
            rw [if_neg (fun y => cq y.2), if_neg (show ¬ ¬ (isC (ai S 198) z ∧ isR (ai S 198) (nI m) (nI u)) from fun y => y cp), if_pos cq]
          · rw [if_neg (show ¬ ¬ (isC (ai S 198) z ∧ isR (ai S 198) (nI m) (nI u)) from fun y => y cp), if_pos cq]
            exact th0 _ _
      · have : ∃ Q' : Prop, ∃ _ : Decidable Q', q = bI Q' := by
          rcases q3 with rfl | rfl
          · exact ⟨False, inferInstance, rfl⟩
          · exact ⟨True, inferInstance, rfl⟩
        obtain ⟨Q', dQ, rfl⟩ := this
        refine ⟨0, ui S' 1000 197 1, ?_, eqv_thr S' _, rfl, ?_, fun z => absurd z cp⟩
        · show f_X11_file F S' 197 x y z = _
          rw [q1]
          unfold f_X11_file_L46
          rw [e_passes2, ob_some]
          simp only [lt_eq, ne_bI]
          rw [if_neg (fun y => cp y.1), if_pos cp]
        · rw [if_pos cp]
          exact th0 _ _
  · obtain ⟨⟨c0, c1⟩, c2, c3⟩ := hc
    obtain ⟨m, u, hm, hm2, hu, hu2, rfl, rfl⟩ := ixR h c1
    have c4 : stN (ai S 198) m u = 0 := by
      unfold livX at c2
      rw [nI_clamp (by omega), nI_clamp (by omega)] at c2
      exact c2
    rw [nI_clamp (by omega), nI_clamp (by omega)] at c3
    obtain ⟨c, hcl, hc8, rfl⟩ := ixC h c0
    obtain ⟨hh, ff, Ns, Bs, rc, rm, rx⟩ := h.parts
    obtain ⟨T1, t1, t2, t3, t4, t5, t6, t7⟩ := rc.rem (F := F) (by omega)
    have hx1 := t2.2.1
    have g1 := t2.2.2.2
    obtain ⟨q0, hq0⟩ : ∃ q0, q0 = clN (ai S 198) m u := ⟨_, rfl⟩
    obtain ⟨T2, hT2⟩ : ∃ T2, T2 = uai (uai T1 31 (10 * m + u) (nI c)) 32 (10 * m + u) (ai S 198 2) := ⟨_, rfl⟩
    have fc : f_X10_file F S 0 (nI m) (nI u) (nI c) = some (.inr q0, T2) := by
      rw [fc0 m u hm hu c0 c1 c4, if_pos c3]
      unfold f_X10_file_L60
      rw [t1, ob_some, hx1.r905_0, ob_some, e_enter g1.c0 hx1.sp27 hm2 hu2, ob_some, hT2, hq0]
    have O2 : ∀ k, ¬ k = 31 → ¬ k = 32 → SameO T1 T2 k := fun k a b => by rw [hT2]; exact (SameO.uai _ a).tr (SameO.uai _ b)
    have hx2 : FxF T2 := by rw [hT2]; exact hx1.agr (fun _ _ _ _ => rfl) (fun _ _ => rfl) rfl
    obtain ⟨M, hM⟩ : ∃ M, M = updR (ai S 198) m u 0 (nI c) (ai S 198 2) := ⟨_, rfl⟩
    have stT : ∀ k, ai T1 30 k = if k = 10 * m + u then (0 : Int32) else ai T1 30 k := fun k => by
      by_cases z : k = 10 * m + u
      · rw [if_pos z, z, ← c4]; exact (g1.c0.cf m u hm hu2).1
      · rw [if_neg z]
    have rc2 : RC T2 n (hN hh) (fN hh ff) (setF Ns (tN hh ff) (ai S 198)) (setF Bs (tN hh ff) (ai S 200)) M (ai S 200) := by
      refine ⟨t2.1, hx2, t2.2.2.1.agr (Nat.le_refl _) (fun k hk => O2 k (by omega) (by omega)) ((O2 0 (by omega) (by omega)).1 _) ((O2 0 (by omega) (by omega)).1 _), ?_⟩
      rw [hM]
      refine g1.ref (by omega) hm hu (Or.inl rfl) (Int32.ge01 c4) hcl (fun k hk => O2 k (by omega) (by omega)) (fun k => ?_) (fun k => ?_) (fun k => ?_)
      · rw [(O2 (27 + 3) (by omega) (by omega)).row]
        exact stT k
      · rw [hT2, ai_uai, if_neg (by omega), ai_uai]
        by_cases z : k = 10 * m + u
        · rw [if_pos ⟨rfl, z⟩, if_pos z]
        · rw [if_neg (fun y => z y.2), if_neg z]
      · rw [hT2, ai_uai]
        by_cases z : k = 10 * m + u
        · rw [if_pos ⟨rfl, z⟩, if_pos z]
        · rw [if_neg (fun y => z y.2), if_neg z, ai_uai, if_neg (by omega)]
    have cf2 : CFr n S T2 := t3.tr (n' := n) ⟨fun k _ _ hk _ _ _ => O2 k (by omega) (by omega), fun _ _ _ => (O2 0 (by omega) (by omega)).1 _⟩ (Nat.le_refl _)
    obtain ⟨S1, hS1⟩ : ∃ S1, S1 = ual T2 210 0 q0.toInt64 := ⟨_, rfl⟩
    have rc3 := rc2.out 0 q0.toInt64
    have cf3 : CFr n S S1 := by rw [hS1]; exact cf2.tr (n' := n) (CFr.out n T2 0 _) (Nat.le_refl _)
    rw [← hS1] at rc3
    have rx3 := rx.cfr cf3 h.hn
    have hx3 := rc3.2.1
    have n1 : ai S1 198 = ai S 198 := (cf3.1 198 (by have := h.hn; omega) (by omega) (by omega) (by omega) (by omega) (by omega)).row
    have w1 : WB (ai S1 198) (ai S 200) := by rw [n1]; exact h.w
    obtain ⟨U1, u1, u2, m1, hxU, u4, u5, u6⟩ := mutM h rc rm cf3 hx3 (MSc.thr S1 0) hF
    obtain ⟨U2, hU2⟩ : ∃ U2, U2 = uai (uai U1 198 (1172 + 3 * (10 * m + u)) (nI c)) 198 (1173 + 3 * (10 * m + u)) (ai S 198 2) := ⟨_, rfl⟩
    have cs : f_X11_isClass F S1 197 (nI c) = some (bI (isC (ai S 198) (nI c)), S1) := by
      have e : bI (isC (ai S 198) (nI c)) = 1 := by unfold bI; rw [if_pos c0]
      have c0' : 0 ≤ nI c ∧ nI c < nI (kN (ai S 198) 3) := by rw [← h.w.n3.1]; exact c0
      rw [e]
      unfold f_X11_isClass
      rw [hx3.r1001_197, ob_some, hx3.l198, show (3 : Int32) = nI 3 from rfl, cki_nI (by omega) (by omega), nI_clamp (by omega), n1, h.w.n3.1, e_in0 F S1 (nI c) (by have := h.w.n3.2; omega), ob_some]
      simp only [lt_eq]
      rw [ck_t (bI01 _)]
      unfold bI
      rw [if_pos c0']
    have fm : f_X11_file F S1 197 (nI m) (nI u) (nI c) = some (q0, U2) := by
      obtain ⟨q, q1, q2, q3⟩ := m_file (F := F) (P := isC (ai S 198) (nI c) ∧ isR (ai S 198) (nI m) (nI u)) (Q := livX (ai S 198) (nI m) (nI u)) hx3 w1 (nI m) (nI u) (nI c) (by rw [n1]; exact cs) (by rw [n1]) (fun _ => by rw [n1])
      rw [q1, q2 ⟨c0, c1⟩, fm0 S1 hx3 n1 m u hm2 hu2 _ _ ⟨c0, c1⟩ c2, if_pos c3]
      unfold f_X11_file_L98
      rw [u1, ob_some, m_enter hxU hm2 hu2, ob_some, hU2, hq0, u4]
    have ne : ∀ o, ¬ o = 198 → ai U2 o = ai U1 o := fun o ho => by rw [hU2]; exact ((SameO.uai _ ho).tr (SameO.uai _ ho)).row
    have rmU : RM U2 (hN hh) (fN hh ff) (setF Ns (tN hh ff) (ai S 198)) (setF Bs (tN hh ff) (ai S 200)) M (ai S 200) := by
      refine u2.net (fun k hk => ?_) ?_ (ne 207 (by omega)) (ne 208 (by omega)) (by rw [hU2]; rfl) (by rw [hU2]; rfl) (by rw [hU2]; rfl) (by rw [hU2]; rfl)
      · rw [hU2, hM, ai_uai]
        by_cases z : k = 1173 + 3 * (10 * m + u)
        · rw [if_pos ⟨rfl, z⟩, z, updR_2]
        · rw [if_neg (fun y => z y.2), ai_uai]
          by_cases z2 : k = 1172 + 3 * (10 * m + u)
          · rw [if_pos ⟨rfl, z2⟩, z2, updR_1]
          · rw [if_neg (fun y => z2 y.2), u4]
            by_cases z3 : k = 1171 + 3 * (10 * m + u)
            · rw [z3, updR_0, ← c4]; rfl
            · rw [updR_n z3 z2 z]
      · rw [ne 200 (by omega), u5]; exact EqB.rf _ _
    have mU : MFr S1 U2 := by rw [hU2]; exact (m1.tr (MFr.uai _ (by omega))).tr (MFr.uai _ (by omega))
    refine endM q0 T2 U2 ?_ (fm := fun S => f_X11_file F S 197 (nI m) (nI u) (nI c)) (by rw [← hS1]; exact fm) ?_ ?_ (Rel.of (rc3.mfr mU) rmU (rx3.mfr mU))
    · rw [fc, ob_some]
      simp only [lt_eq, sm_r]
      rw [hx2.l210, cki_0 (by omega) (by omega)]
      rfl
    · rw [hU2]
      show si U1 1000 197 = 0
      rw [u6]
      exact th0 _ _
    · rw [← hS1, mU.2.2.2.2.1]
end A
