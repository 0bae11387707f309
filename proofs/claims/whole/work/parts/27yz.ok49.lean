/-! predictions: the store is empty, bytes, lives -/
def stP (N : Nat → Int32) : Prop := ∃ q, q < kN N 8 ∧ isN N q = 1
section Sto
variable {N M B : Nat → Int32}
theorem sto_n (w : WB N B) : ∃ s, stoN N = nI s ∧ s ≤ 96000 ∧ (s = 0 ↔ ¬ stP N) := by
  have b8 := w.n8.2
  have key : ∀ x, x ≤ kN N 8 → ∃ s, runN (fun q a => if isN N q = 1 then a + lenN N q else a) x 0 0 = nI s ∧ s ≤ 200 * x ∧ (s = 0 ↔ ∀ q, q < x → ¬ isN N q = 1) := by
    intro x
    induction x with
    | zero => intro _; exact ⟨0, rfl, by omega, fun _ q hq => by omega, fun _ => rfl⟩
    | succ x ih =>
      intro hx
      obtain ⟨s, s1, s2, s3⟩ := ih (by omega)
      obtain ⟨p1, p2, -, -, -⟩ := w.wP x (by omega)
      have p12 := p1.2
      have p11 : lenN N x = nI (kN N (4771 + 3 * x)) := p1.1
      rw [runN_s, Nat.zero_add, s1]
      by_cases z : isN N x = 1
      · rw [if_pos z, p11, nI_add]
        exact ⟨_, rfl, by omega, fun y => by omega, fun y => absurd z (y x (by omega))⟩
      · rw [if_neg z]
        refine ⟨s, rfl, by omega, fun y q hq => ?_, fun y => s3.mpr (fun q hq => y q (by omega))⟩
        by_cases e : q = x
        · rw [e]; exact z
        · exact s3.mp y q (by omega)
  obtain ⟨s, s1, s2, s3⟩ := key (kN N 8) (Nat.le_refl _)
  refine ⟨s, s1, by omega, s3.trans ⟨fun y ⟨q, q1, q2⟩ => y q q1 q2, fun y q q1 q2 => y ⟨q, q1, q2⟩⟩⟩
theorem sto_le (w : WB N B) : stoN N ≤ 0 ↔ ¬ stP N := by
  obtain ⟨s, s1, s2, s3⟩ := sto_n w
  rw [s1]
  exact (nI_leI (b := 0) (by omega) (by omega)).trans ((show s ≤ 0 ↔ s = 0 by omega).trans s3)
theorem sto_c (k8 : kN M 8 = kN N 8) (h : ∀ q, q < kN N 8 → isN M q = isN N q ∧ lenN M q = lenN N q) : stoN M = stoN N := by
  unfold stoN
  rw [k8]
  exact runN_e (fun q a hq => by rw [(h q hq).1, (h q hq).2])
theorem stP_c (k8 : kN M 8 = kN N 8) (h : ∀ q, q < kN N 8 → isN M q = isN N q) : stP M ↔ stP N := by
  unfold stP
  rw [k8]
  exact ⟨fun ⟨q, a, b⟩ => ⟨q, a, by rw [← h q a]; exact b⟩, fun ⟨q, a, b⟩ => ⟨q, a, by rw [h q a]; exact b⟩⟩
theorem EqC.sto (h : EqC N M) (b8 : kN N 8 ≤ 480) : stoN M = stoN N := sto_c (h.kn (by omega) (by omega)) (fun q hq => ⟨h.is (by omega), h.le (by omega)⟩)
theorem EqC.stP (h : EqC N M) (b8 : kN N 8 ≤ 480) : stP M ↔ stP N := stP_c (h.kn (by omega) (by omega)) (fun q hq => h.is (by omega))
theorem EqX.sto (h : EqX (fun k => k = 2) N M) (b8 : kN N 8 ≤ 480) : stoN M = stoN N := sto_c (h.kn (by omega) (by omega) (by omega)) (fun q hq => ⟨h.is (fun k z => by omega) (by omega), h.le (fun k z => by omega) (by omega)⟩)
theorem EqX.stP (h : EqX (fun k => k = 2) N M) (b8 : kN N 8 ≤ 480) : stP M ↔ stP N := stP_c (h.kn (by omega) (by omega) (by omega)) (fun q hq => h.is (fun k z => by omega) (by omega))
end Sto
section R49
variable {F : Nat} {S : St} {n : Nat} {N B : Nat → Int32}
theorem e_empOn (t : ThS B N 2000) (hd : kN N 2 + 2000 ≤ 22000) (hF : 100000 ≤ F) {T0 : St} (c0 : InC S n B N 0 T0) : ∃ v T, f_X10_emptyOn_L6 F F T0 0 0 = some (v, T) ∧ Eqv S T ∧ ansP (fun j => stP (mN B N j)) (kN N 2) v := by
  have many : ∀ i T, i ≤ 2000 → InC S n B N i T → (si T 801 54 ≤ 0 ↔ ¬ stP (mN B N i)) := by
    intro i T hi c
    obtain ⟨c1, c2, c3, c4, c5, c6⟩ := c
    have b8 := c1.c0.wb.n8.2
    have cb := cntP_le (fun q => isN (cN B N i) q = 1) (kN (cN B N i) 8)
    rw [show (54 : Nat) = 48 + 6 from rfl, c1.c0.cp.1.2.1, (t i hi).2.2.2.2.stP b8]
    refine (nI_leI (b := 0) (by omega) (by omega)).trans ((show cntP (fun q => isN (cN B N i) q = 1) (kN (cN B N i) 8) ≤ 0 ↔ cntP (fun q => isN (cN B N i) q = 1) (kN (cN B N i) 8) = 0 by omega).trans (cntP_z.trans ?_))
    exact ⟨fun y ⟨q, q1, q2⟩ => y q q1 q2, fun y q q1 q2 => y ⟨q, q1, q2⟩⟩
  have fin : ∀ i T, i ≤ 2000 → InC S n B N i T → f_X10_emptyOn_L50 F T 0 = some (pif (stP (mN B N i)) (-1) (nI (kN N 2 + i)), T) := by
    intro i T hi c
    have mm := many i T hi c
    obtain ⟨c1, c2, c3, c4, c5, c6⟩ := c
    have s7 : si T 701 48 = nI (kN N 2 + i) := by rw [c1.c0.s701, c1.c0.wb.n2.1, c4]
    unfold f_X10_emptyOn_L50
    rw [c6.r906_0, ob_some, c2.r710_0, ob_some]
    by_cases z : stP (mN B N i)
    · rw [if_neg (fun y => (mm.mp y) z), pif_t z]
    · rw [if_pos (mm.mpr z), pif_f z, ob_some, s7]
  have loop : ∀ d i fu T, i + d = 2000 → d < fu → InC S n B N i T → (∀ j, j < i → stP (mN B N j)) → ∃ v T', f_X10_emptyOn_L6 F fu T 0 (nI i) = some (v, T') ∧ Eqv S T' ∧ ansP (fun j => stP (mN B N j)) (kN N 2) v := by
    intro d
    induction d with
    | zero =>
      intro i fu T hi hfu c m
      obtain ⟨fu, rfl⟩ : ∃ f', fu = f' + 1 := ⟨fu - 1, by omega⟩
      have : i = 2000 := by omega
      subst this
      refine ⟨pif (stP (mN B N 2000)) (-1) (nI (kN N 2 + 2000)), T, ?_, c.2.2.2.2.1, ?_⟩
      · unfold f_X10_emptyOn_L6
        rw [if_pos (by decide), fin 2000 T (Nat.le_refl _) c]
      · by_cases z : stP (mN B N 2000)
        · rw [pif_t z]
          exact ansP_end (fun j hj => by
            by_cases y : j = 2000
            · rw [y]; exact z
            · exact m j (by omega))
        · rw [pif_f z]
          exact ansP_at (Nat.le_refl _) m z
    | succ d ih =>
      intro i fu T hi hfu c m
      obtain ⟨fu, rfl⟩ : ∃ f', fu = f' + 1 := ⟨fu - 1, by omega⟩
      have cc := c
      have mm := many i T (by omega) c
      obtain ⟨c1, c2, c3, c4, c5, c6⟩ := cc
      have f := fin i T (by omega) c
      unfold f_X10_emptyOn_L6
      rw [show (2000 : Int32) = nI 2000 from rfl, if_neg (nI_ge (by omega) (by omega)), c6.r906_0, ob_some, c2.r710_0, ob_some]
      by_cases z : stP (mN B N i)
      rotate_left
      · rw [pif_f z] at f
        rw [if_pos (mm.mpr z)]
        exact ⟨_, T, f, c5, ansP_at (by omega) m z⟩
      rw [pif_t z] at f
      rw [if_neg (fun y => (mm.mp y) z)]
      obtain ⟨r, r1, r2⟩ := c.rest (F := F) t (by omega)
      rw [ob_some, r1, ob_some]
      simp only [lt_eq]
      rcases r2 with r2 | ⟨r2, r3⟩
      · rw [r2, if_neg (fun y => y rfl), c6.r906_0, ob_some]
        obtain ⟨q, T1, q1, q2⟩ := c.step (F := F) (by omega) (by omega)
        obtain ⟨v, T', x1, x2⟩ := ih (i + 1) fu T1 (by omega) (by omega) q2 (fun j hj => by
          by_cases y : j = i
          · rw [y]; exact z
          · exact m j (by omega))
        refine ⟨v, T', ?_, x2⟩
        rw [q1, ob_some, nI_1]
        simp only [lt_eq]
        exact x1
      · rw [r2, if_pos (show ¬ (1 : Int32) = 0 by decide)]
        refine ⟨_, T, f, c5, ansP_end (fun j hj => ?_)⟩
        by_cases y : j < i
        · exact m j y
        · obtain ⟨e, -⟩ := restP.seq t hd r3 (j - i) (by omega)
          rw [show i + (j - i) = j by omega] at e
          exact (e.stP (t i (by omega)).1.n8.2).mpr z
  exact loop 2000 0 F T0 (by omega) (by omega) c0 (fun j hj => by omega)
theorem m_empOn (t : ThS B N 2000) (hd : kN N 2 + 2000 ≤ 22000) (hF : 100000 ≤ F) {T0 : St} (c0 : InT T0 B N 0 T0) (hN : ai T0 198 = N) (s0 : si S 1005 197 = 0) (b6 : ∀ k, k < 6391 → ai T0 206 k = ai S 198 k) (b : BgT S T0) : ∃ v T, f_X11_emptyOn_L11 F F T0 197 0 = some (v, T) ∧ (Eqv S T ∧ al T = al S ∧ si T 1000 197 = si S 1000 197) ∧ ansP (fun j => stP (mN B N j)) (kN N 2) v := by
  have fin : ∀ i T, i ≤ 2000 → InT T0 B N i T → ∃ T2, f_X11_emptyOn_L36 F T 197 = some (pif (stP (mN B N i)) (-1) (nI (kN N 2 + i)), T2) ∧ Eqv S T2 ∧ al T2 = al S ∧ si T2 1000 197 = si S 1000 197 := by
    intro i T hi c
    obtain ⟨T2, e1, e2⟩ := c.end t hi hN s0 b6 b hF
    obtain ⟨c1, c2, c3, c4, c5, c6⟩ := c
    obtain ⟨w, k2, -⟩ := t i hi
    refine ⟨T2, ?_, e2⟩
    unfold f_X11_emptyOn_L36 f_X11_emptyOn_L53
    rw [m_stored c5 (B := B) (by rw [c2]; exact w) (by omega), ob_some, c2]
    simp only [lt_eq]
    by_cases z : stP (mN B N i)
    · rw [if_neg (fun y => ((sto_le w).mp y) z), pif_t z, e1, ob_some]
    · rw [if_pos ((sto_le w).mpr z), pif_f z, c5.r1001_197, ob_some, c5.l198, show (2 : Int32) = nI 2 from rfl, cki_nI (by omega) (by omega), nI_clamp (by omega), e1, ob_some, c2, w.n2.1, k2]
  have loop : ∀ d i fu T, i + d = 2000 → d < fu → InT T0 B N i T → (∀ j, j < i → stP (mN B N j)) → ∃ v T', f_X11_emptyOn_L11 F fu T 197 (nI i) = some (v, T') ∧ (Eqv S T' ∧ al T' = al S ∧ si T' 1000 197 = si S 1000 197) ∧ ansP (fun j => stP (mN B N j)) (kN N 2) v := by
    intro d
    induction d with
    | zero =>
      intro i fu T hi hfu c m
      obtain ⟨fu, rfl⟩ : ∃ f', fu = f' + 1 := ⟨fu - 1, by omega⟩
      have : i = 2000 := by omega
      subst this
      obtain ⟨T2, f1, f2⟩ := fin 2000 T (Nat.le_refl _) c
      refine ⟨pif (stP (mN B N 2000)) (-1) (nI (kN N 2 + 2000)), T2, ?_, f2, ?_⟩
      · unfold f_X11_emptyOn_L11
        rw [if_pos (by decide), f1]
      · by_cases z : stP (mN B N 2000)
        · rw [pif_t z]
          exact ansP_end (fun j hj => by
            by_cases y : j = 2000
            · rw [y]; exact z
            · exact m j (by omega))
        · rw [pif_f z]
          exact ansP_at (Nat.le_refl _) m z
    | succ d ih =>
      intro i fu T hi hfu c m
      obtain ⟨fu, rfl⟩ : ∃ f', fu = f' + 1 := ⟨fu - 1, by omega⟩
      have cc := c
      obtain ⟨c1, c2, c3, c4, c5, c6⟩ := cc
      obtain ⟨w, k2, -⟩ := t i (by omega)
      unfold f_X11_emptyOn_L11
      rw [show (2000 : Int32) = nI 2000 from rfl, if_neg (nI_ge (by omega) (by omega)), m_stored c5 (B := B) (by rw [c2]; exact w) (by omega), ob_some, c2]
      simp only [lt_eq]
      by_cases z : stP (mN B N i)
      rotate_left
      · obtain ⟨T2, f1, f2⟩ := fin i T (by omega) c
        rw [pif_f z] at f1
        rw [if_pos ((sto_le w).mpr z)]
        exact ⟨_, T2, f1, f2, ansP_at (by omega) m z⟩
      rw [if_neg (fun y => ((sto_le w).mp y) z)]
      obtain ⟨q, T1, q1, q2⟩ := c.step (F := F) t (by omega) hd (by omega)
      obtain ⟨v, T', x1, x2⟩ := ih (i + 1) fu T1 (by omega) (by omega) q2 (fun j hj => by
        by_cases y : j = i
        · rw [y]; exact z
        · exact m j (by omega))
      refine ⟨v, T', ?_, x2⟩
      rw [q1, ob_some, nI_1]
      simp only [lt_eq]
      exact x1
  exact loop 2000 0 F T0 (by omega) (by omega) c0 (fun j hj => by omega)
end R49
section A
variable {F : Nat} {xs : Nat → Int32} {L : Nat} {S : St} {n : Nat} {i : Int32}
theorem ok_49 (hF : 100000 ≤ F) (h : Rel S n) (hi : ∀ k : Nat, k < 6 → vp_in (i + nI k) L) : Ok (f_law49 F xs L S n 0 197 210 211 i) := by
  unfold f_law49
  obtain ⟨t, hd⟩ := h.thS
  obtain ⟨T0, a1, a2⟩ := InC.begin (F := F) h (by omega)
  obtain ⟨v, T, v1, v2, v3⟩ := e_empOn (F := F) t hd hF a2
  have h' := h.eqv v2
  have eU := eqv_thr T 0
  have hU : Rel (ui T 1000 197 0) n := h'.eqv eU
  obtain ⟨T1, u1, u2, u3, u4⟩ := InT.begin (F := F) hU.fx hF
  have n1 : ai (ui T 1000 197 0) 198 = ai S 198 := v2.net
  have n2 : ai (ui T 1000 197 0) 200 = ai S 200 := v2.bytes
  rw [n1, n2] at u2
  obtain ⟨v', T2, x1, ⟨x2, x3, x4⟩, x5⟩ := m_empOn (F := F) (S := ui T 1000 197 0) t hd hF u2 (by rw [u4.2.2.1 198 (by omega), n1]) hU.mi.1 u3 u4
  refine askD h (fm := fun S => f_X11_emptyOn F S 197) v T ?_ v2 ⟨T2, ?_, eU.tr x2⟩
  · unfold f_X10_emptyOn
    rw [a1, ob_some, v1]
  · unfold f_X11_emptyOn
    rw [lt_eq, u1, ob_some, x1, ansP_u x5 v3]
end A
