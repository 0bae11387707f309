/-! predictions: after so many days -/
abbrev dP (x : Int32) : Prop := 0 ≤ x ∧ x ≤ 2000
theorem dP_of {x : Int32} (h : dP x) : ∃ k, x = nI k ∧ k ≤ 2000 := by
  obtain ⟨k, hk, rfl⟩ := nI_of (le_nlt.mp h.1)
  exact ⟨k, rfl, (nI_leI (b := 2000) hk (by omega)).mp h.2⟩
theorem e_needDays {F : Nat} (S : St) (x : Int32) : f_X10_needDaysAhead F S x = some (if dP x then .inr () else .inl 2, S) := by
  unfold f_X10_needDaysAhead f_X10_needDaysAhead_L11
  by_cases a : x < 0
  · rw [if_pos a, if_neg (show ¬ dP x from fun y => (le_nlt.mp y.1) a)]
  · rw [if_neg a]
    by_cases b : x ≤ 2000
    · rw [if_pos b, if_pos (show dP x from ⟨le_nlt.mpr a, b⟩)]
    · rw [if_neg b, if_neg (show ¬ dP x from fun y => b y.2)]
theorem m_areDays {F : Nat} (S : St) (x : Int32) : f_X11_areDays F S x = some (bI (dP x), S) := by
  unfold f_X11_areDays
  rw [show f_X11_in F S x.toInt64 0 2000 = some (bI (0 ≤ x ∧ x ≤ 2000), S) from e_in F S x 0 2000, ob_some]
  simp only [lt_eq]
  rw [ck_t (bI01 _)]
theorem ThS.mono {B N : Nat → Int32} {K K' : Nat} (t : ThS B N K) (h : K' ≤ K) : ThS B N K' := fun i hi => by
  obtain ⟨a, b, c, d, e⟩ := t i (by omega)
  exact ⟨a, b, fun y => c (by omega), d, e⟩
section R50
variable {F : Nat} {S : St} {n : Nat} {N B : Nat → Int32} {K : Nat}
/-- the class after so many days: as far as anything but the day is asked, it is the model's spool -/
def InD (S : St) (n : Nat) (B N : Nat → Int32) (K : Nat) (T : St) : Prop := ∃ i, i ≤ K ∧ InC S n B N i T ∧ EqX (fun k => k = 2) (mN B N i) (mN B N K)
theorem e_bytesAf (t : ThS B N 2000) (hd : kN N 2 + 2000 ≤ 22000) (hK : K ≤ 2000) (hF : 100000 ≤ F) {T0 : St} (c0 : InC S n B N 0 T0) : ∃ T, f_X10_bytesAfter_L10 F F T0 0 (nI K) 0 = some (.inr (stoN (mN B N K)), T) ∧ Eqv S T := by
  have tK := t.mono hK
  have fin : ∀ T, InD S n B N K T → f_X10_bytesAfter_L39 F T 0 = some (.inr (stoN (mN B N K)), T) := by
    intro T ⟨i, hi, c, e⟩
    obtain ⟨c1, c2, c3, c4, c5, c6⟩ := c
    unfold f_X10_bytesAfter_L39
    rw [c6.r906_0, ob_some, c2.r710_0, ob_some, e_byteSum c1.c0 c2 (by omega), ob_some, e.sto (t i (by omega)).1.n8.2, (t i (by omega)).2.2.2.2.sto c1.c0.wb.n8.2]
    simp only [lt_eq]
  have loop : ∀ d i fu T, i + d = K → d < fu → InC S n B N i T → ∃ T', f_X10_bytesAfter_L10 F fu T 0 (nI K) (nI i) = some (.inr (stoN (mN B N K)), T') ∧ Eqv S T' := by
    intro d
    induction d with
    | zero =>
      intro i fu T hi hfu c
      obtain ⟨fu, rfl⟩ : ∃ f', fu = f' + 1 := ⟨fu - 1, by omega⟩
      have : i = K := by omega
      subst this
      refine ⟨T, ?_, c.2.2.2.2.1⟩
      unfold f_X10_bytesAfter_L10
      rw [if_pos (nI_le (Nat.le_refl _) (by omega)), fin T ⟨i, Nat.le_refl _, c, fun _ _ _ _ => rfl⟩]
    | succ d ih =>
      intro i fu T hi hfu c
      obtain ⟨fu, rfl⟩ : ∃ f', fu = f' + 1 := ⟨fu - 1, by omega⟩
      have c6 := c.2.2.2.2.2
      obtain ⟨r, r1, r2⟩ := c.rest (F := F) tK (by omega)
      unfold f_X10_bytesAfter_L10
      rw [if_neg (nI_ge (by omega) (by omega)), c6.r906_0, ob_some, r1, ob_some]
      simp only [lt_eq]
      rcases r2 with r2 | ⟨r2, r3⟩
      · rw [r2, if_neg (fun y => y rfl), c6.r906_0, ob_some]
        obtain ⟨q, T1, q1, q2⟩ := c.step (F := F) (by omega) (by omega)
        obtain ⟨T', x1, x2⟩ := ih (i + 1) fu T1 (by omega) (by omega) q2
        refine ⟨T', ?_, x2⟩
        rw [q1, ob_some, nI_1]
        simp only [lt_eq]
        exact x1
      · rw [r2, if_pos (show ¬ (1 : Int32) = 0 by decide)]
        obtain ⟨e, -⟩ := restP.seq tK (by omega) r3 (K - i) (by omega)
        rw [show i + (K - i) = K by omega] at e
        exact ⟨T, fin T ⟨i, by omega, c, e⟩, c.2.2.2.2.1⟩
  exact loop K 0 F T0 (by omega) (by omega) c0
theorem m_bytesAf (t : ThS B N 2000) (hd : kN N 2 + 2000 ≤ 22000) (hK : K ≤ 2000) (hF : 100000 ≤ F) {T0 : St} (c0 : InT T0 B N 0 T0) (hN : ai T0 198 = N) (s0 : si S 1005 197 = 0) (b6 : ∀ k, k < 6391 → ai T0 206 k = ai S 198 k) (b : BgT S T0) : ∃ T, f_X11_bytesAfter_L19 F F T0 197 (nI K) 0 = some (stoN (mN B N K), T) ∧ (Eqv S T ∧ al T = al S ∧ si T 1000 197 = si S 1000 197) := by
  have tK := t.mono hK
  have loop : ∀ d i fu T, i + d = K → d < fu → InT T0 B N i T → ∃ T', f_X11_bytesAfter_L19 F fu T 197 (nI K) (nI i) = some (stoN (mN B N K), T') ∧ (Eqv S T' ∧ al T' = al S ∧ si T' 1000 197 = si S 1000 197) := by
    intro d
    induction d with
    | zero =>
      intro i fu T hi hfu c
      obtain ⟨fu, rfl⟩ : ∃ f', fu = f' + 1 := ⟨fu - 1, by omega⟩
      have : i = K := by omega
      subst this
      obtain ⟨T2, e1, e2⟩ := c.end tK (Nat.le_refl _) hN s0 b6 b hF
      obtain ⟨c1, c2, c3, c4, c5, c6⟩ := c
      refine ⟨T2, ?_, e2⟩
      unfold f_X11_bytesAfter_L19
      rw [if_pos (nI_le (Nat.le_refl _) (by omega)), m_stored c5 (B := B) (by rw [c2]; exact (t i hK).1) (by omega), ob_some, c2]
      simp only [lt_eq]
      rw [e1, ob_some]
    | succ d ih =>
      intro i fu T hi hfu c
      obtain ⟨fu, rfl⟩ : ∃ f', fu = f' + 1 := ⟨fu - 1, by omega⟩
      obtain ⟨q, T1, q1, q2⟩ := c.step (F := F) tK (by omega) (by omega) (by omega)
      obtain ⟨T', x1, x2⟩ := ih (i + 1) fu T1 (by omega) (by omega) q2
      refine ⟨T', ?_, x2⟩
      unfold f_X11_bytesAfter_L19
      rw [if_neg (nI_ge (by omega) (by omega)), q1, ob_some, nI_1]
      simp only [lt_eq]
      exact x1
  exact loop K 0 F T0 (by omega) (by omega) c0
/-- the live references of a user -/
noncomputable def lvsN (N : Nat → Int32) (u : Nat) : Nat := cntP (fun m => stN N m u = 0) (kN N 7)
theorem lvs_c {M : Nat → Int32} {u : Nat} (k7 : kN M 7 = kN N 7) (h : ∀ m, m < kN N 7 → stN M m u = stN N m u) : lvsN M u = lvsN N u := by
  unfold lvsN
  rw [k7]
  exact cntP_c (fun m hm => by rw [h m hm])
theorem e_goneAf (h : Rel S n) (hN : N = ai S 198) (hB : B = ai S 200) (t : ThS B N 2000) (hd : kN N 2 + 2000 ≤ 22000) (hK : K ≤ 2000) {u : Nat} (hu : u < kN N 4) (hF : 100000 ≤ F) {T0 : St} (c0 : InC S n B N 0 T0) : ∃ T, f_X10_goneAfter_L15 F F T0 0 (nI u) (nI K) 0 = some (.inr (nI (lvsN N u) - nI (lvsN (mN B N K) u)), T) ∧ Eqv S T := by
  have tK := t.mono hK
  have fin : ∀ T, InD S n B N K T → f_X10_goneAfter_L44 F T 0 (nI u) = some (.inr (nI (lvsN N u) - nI (lvsN (mN B N K) u)), T) := by
    intro T ⟨i, hi, c, e⟩
    obtain ⟨c1, c2, c3, c4, c5, c6⟩ := c
    have hT := h.eqv c5
    have g0 : Cl0 T n 27 N B := by
      have := hT.c0
      rw [c5.net, c5.bytes, ← hN, ← hB] at this
      exact this
    have w := (t i (by omega)).1
    have b7 := w.n7.2
    have b7' := c1.c0.wb.n7.2
    have ec := (t i (by omega)).2.2.2.2
    have k4 : kN (mN B N i) 4 = kN N 4 := mN_k t (by omega) (by omega) (by omega) (by omega)
    have b4 := w.n4.2
    unfold f_X10_goneAfter_L44
    rw [c6.r905_0, ob_some, e_liveOf g0 c6.sp27 hu (by omega), ob_some]
    simp only [lt_eq]
    rw [c6.r906_0, ob_some, e_liveOf c1.c0 c2 (by rw [cN_k t (by omega) (by omega) (by omega) (by omega)]; exact hu) (by omega), ob_some]
    simp only [lt_eq]
    have e1 : lvsN (mN B N i) u = lvsN (cN B N i) u := lvs_c (ec.kn (by omega) (by omega)) (fun m hm => ec.st (by omega) (by omega))
    have e2 : lvsN (mN B N K) u = lvsN (mN B N i) u := lvs_c (e.kn (by omega) (by omega) (by omega)) (fun m hm => e.st (fun k z => by omega) (by omega) (by omega))
    rw [e2, e1]
    rfl
  have loop : ∀ d i fu T, i + d = K → d < fu → InC S n B N i T → ∃ T', f_X10_goneAfter_L15 F fu T 0 (nI u) (nI K) (nI i) = some (.inr (nI (lvsN N u) - nI (lvsN (mN B N K) u)), T') ∧ Eqv S T' := by
    intro d
    induction d with
    | zero =>
      intro i fu T hi hfu c
      obtain ⟨fu, rfl⟩ : ∃ f', fu = f' + 1 := ⟨fu - 1, by omega⟩
      have : i = K := by omega
      subst this
      refine ⟨T, ?_, c.2.2.2.2.1⟩
      unfold f_X10_goneAfter_L15
      rw [if_pos (nI_le (Nat.le_refl _) (by omega)), fin T ⟨i, Nat.le_refl _, c, fun _ _ _ _ => rfl⟩]
    | succ d ih =>
      intro i fu T hi hfu c
      obtain ⟨fu, rfl⟩ : ∃ f', fu = f' + 1 := ⟨fu - 1, by omega⟩
      have c6 := c.2.2.2.2.2
      obtain ⟨r, r1, r2⟩ := c.rest (F := F) tK (by omega)
      unfold f_X10_goneAfter_L15
      rw [if_neg (nI_ge (by omega) (by omega)), c6.r906_0, ob_some, r1, ob_some]
      simp only [lt_eq]
      rcases r2 with r2 | ⟨r2, r3⟩
      · rw [r2, if_neg (fun y => y rfl), c6.r906_0, ob_some]
        obtain ⟨q, T1, q1, q2⟩ := c.step (F := F) (by omega) (by omega)
        obtain ⟨T', x1, x2⟩ := ih (i + 1) fu T1 (by omega) (by omega) q2
        refine ⟨T', ?_, x2⟩
        rw [q1, ob_some, nI_1]
        simp only [lt_eq]
        exact x1
      · rw [r2, if_pos (show ¬ (1 : Int32) = 0 by decide)]
        obtain ⟨e, -⟩ := restP.seq tK (by omega) r3 (K - i) (by omega)
        rw [show i + (K - i) = K by omega] at e
        exact ⟨T, fin T ⟨i, by omega, c, e⟩, c.2.2.2.2.1⟩
  exact loop K 0 F T0 (by omega) (by omega) c0
theorem m_goneAf (v : Int32) (t : ThS B N 2000) (hd : kN N 2 + 2000 ≤ 22000) (hK : K ≤ 2000) {u : Nat} (hu : u < 10) (hF : 100000 ≤ F) {T0 : St} (c0 : InT T0 B N 0 T0) (hN : ai T0 198 = N) (s0 : si S 1005 197 = 0) (b6 : ∀ k, k < 6391 → ai T0 206 k = ai S 198 k) (b : BgT S T0) : ∃ T, f_X11_goneAfter_L31 F F T0 197 (nI u) (nI K) v 0 = some (v - nI (lvsN (mN B N K) u), T) ∧ (Eqv S T ∧ al T = al S ∧ si T 1000 197 = si S 1000 197) := by
  have tK := t.mono hK
  have loop : ∀ d i fu T, i + d = K → d < fu → InT T0 B N i T → ∃ T', f_X11_goneAfter_L31 F fu T 197 (nI u) (nI K) v (nI i) = some (v - nI (lvsN (mN B N K) u), T') ∧ (Eqv S T' ∧ al T' = al S ∧ si T' 1000 197 = si S 1000 197) := by
    intro d
    induction d with
    | zero =>
      intro i fu T hi hfu c
      obtain ⟨fu, rfl⟩ : ∃ f', fu = f' + 1 := ⟨fu - 1, by omega⟩
      have : i = K := by omega
      subst this
      obtain ⟨T2, e1, e2⟩ := c.end tK (Nat.le_refl _) hN s0 b6 b hF
      obtain ⟨c1, c2, c3, c4, c5, c6⟩ := c
      refine ⟨T2, ?_, e2⟩
      unfold f_X11_goneAfter_L31
      rw [if_pos (nI_le (Nat.le_refl _) (by omega)), m_livesOf c5 (B := B) (by rw [c2]; exact (t i hK).1) hu (by omega), ob_some, c2]
      simp only [lt_eq]
      rw [e1, ob_some]
      rfl
    | succ d ih =>
      intro i fu T hi hfu c
      obtain ⟨fu, rfl⟩ : ∃ f', fu = f' + 1 := ⟨fu - 1, by omega⟩
      obtain ⟨q, T1, q1, q2⟩ := c.step (F := F) tK (by omega) (by omega) (by omega)
      obtain ⟨T', x1, x2⟩ := ih (i + 1) fu T1 (by omega) (by omega) q2
      refine ⟨T', ?_, x2⟩
      unfold f_X11_goneAfter_L31
      rw [if_neg (nI_ge (by omega) (by omega)), q1, ob_some, nI_1]
      simp only [lt_eq]
      exact x1
  exact loop K 0 F T0 (by omega) (by omega) c0
end R50
section A
variable {F : Nat} {xs : Nat → Int32} {L : Nat} {S : St} {n : Nat} {i : Int32}
theorem ok_50 (hF : 100000 ≤ F) (h : Rel S n) (hi : ∀ k : Nat, k < 6 → vp_in (i + nI k) L) : Ok (f_law50 F xs L S n 0 197 210 211 i) := by
  have h1 : vp_in (i + 1) L := hi 1 (by omega)
  unfold f_law50 f_L_bytesAfter
  simp only [cki_t h1]
  generalize xs (Int32.toNatClampNeg (i + 1)) = x
  by_cases hc : dP x
  rotate_left
  · refine askB h (fm := fun S => f_X11_bytesAfter F S 197 x) (dP x) 0 2 1 S ?_ (Eqv.rf S) rfl (by decide) (fun S' h' e => ?_)
    · unfold f_X10_bytesAfter
      rw [e_needDays, ob_some, if_neg hc, if_neg hc]
      rfl
    · refine ⟨0, ui S' 1000 197 1, ?_, eqv_thr S' _, rfl, by rw [if_pos hc]; rfl, fun y => absurd y hc⟩
      unfold f_X11_bytesAfter
      rw [m_areDays, ob_some]
      simp only [lt_eq]
      rw [e_passes, ob_some, show (if ¬ dP x then (1 : Int32) else 0) = 1 from if_pos hc]
      simp only [lt_eq, ne_bI]
      rw [if_neg hc]
  · have hc0 := hc
    obtain ⟨K, rfl, hK⟩ := dP_of hc0
    obtain ⟨t, hd⟩ := h.thS
    obtain ⟨T0, a1, a2⟩ := InC.begin (F := F) h (by omega)
    obtain ⟨T, v1, v2⟩ := e_bytesAf (F := F) t hd hK hF a2
    refine askB h (fm := fun S => f_X11_bytesAfter F S 197 (nI K)) (dP (nI K)) (stoN (mN (ai S 200) (ai S 198) K)) 2 1 T ?_ v2 rfl (by decide) (fun S' h' e => ?_)
    · unfold f_X10_bytesAfter
      rw [e_needDays, ob_some, if_pos hc, if_pos hc, lt_eq, sm_r, a1, ob_some, v1]
    · have eU := eqv_thr S' 0
      have hU : Rel (ui S' 1000 197 0) n := h'.eqv eU
      obtain ⟨T1, u1, u2, u3, u4⟩ := InT.begin (F := F) hU.fx hF
      have n1 : ai (ui S' 1000 197 0) 198 = ai S 198 := e.net
      have n2 : ai (ui S' 1000 197 0) 200 = ai S 200 := e.bytes
      rw [n1, n2] at u2
      obtain ⟨T2, x1, x2, x3, x4⟩ := m_bytesAf (F := F) (S := ui S' 1000 197 0) t hd hK hF u2 (by rw [u4.2.2.1 198 (by omega), n1]) hU.mi.1 u3 u4
      refine ⟨_, T2, ?_, eU.tr x2, x3, by rw [x4, if_neg (fun y => y hc)]; rfl, fun _ => rfl⟩
      unfold f_X11_bytesAfter
      rw [m_areDays, ob_some]
      simp only [lt_eq]
      rw [e_passes, ob_some, show (if ¬ dP (nI K) then (1 : Int32) else 0) = 0 from if_neg (fun y => y hc)]
      simp only [lt_eq, ne_bI]
      rw [if_pos hc, u1, ob_some, x1]
theorem ok_51 (hF : 100000 ≤ F) (h : Rel S n) (hi : ∀ k : Nat, k < 6 → vp_in (i + nI k) L) : Ok (f_law51 F xs L S n 0 197 210 211 i) := by
  have h1 : vp_in (i + 1) L := hi 1 (by omega)
  have h2 : vp_in (i + 2) L := hi 2 (by omega)
  unfold f_law51 f_L_goneAfter
  simp only [cki_t h1, cki_t h2]
  generalize xs (Int32.toNatClampNeg (i + 1)) = x
  generalize xs (Int32.toNatClampNeg (i + 2)) = y
  have b4 := h.w.n4.2
  by_cases hc : (0 ≤ x ∧ x < ai S 198 4) ∧ dP y
  rotate_left
  · refine askC h (fm := fun S => f_X11_goneAfter F S 197 x y) (0 ≤ x ∧ x < ai S 198 4) (dP y) 0 4 2 S ?_ (Eqv.rf S) rfl rfl (fun S' h' e => ?_)
    · unfold f_X10_goneAfter
      rw [e_needUser h, ob_some]
      by_cases c1 : 0 ≤ x ∧ x < ai S 198 4
      · rw [if_pos c1, if_pos c1, lt_eq, sm_r, e_needDays, ob_some, if_neg (fun z => hc ⟨c1, z⟩), if_neg (fun z => hc ⟨c1, z⟩)]
        rfl
      · rw [if_neg c1, if_neg c1]
        rfl
    · refine ⟨0, _, ?_, eqv_thr S' (if ¬ (0 ≤ x ∧ x < ai S 198 4) then 1 else if ¬ dP y then 2 else 0), rfl, rfl, fun p q => absurd ⟨p, q⟩ hc⟩
      unfold f_X11_goneAfter
      rw [e_isUser h', ob_some, e.net]
      simp only [lt_eq]
      rw [m_areDays, ob_some]
      simp only [lt_eq]
      rw [e_passes2, ob_some]
      simp only [lt_eq, ne_bI]
      rw [if_neg hc]
  · obtain ⟨c1, c2⟩ := hc
    have c20 := c2
    obtain ⟨K, rfl, hK⟩ := dP_of c20
    obtain ⟨u, hu, rfl⟩ := ix (k := kN (ai S 198) 4) (by omega) (by have := c1; rw [h.w.n4.1] at this; exact this)
    obtain ⟨t, hd⟩ := h.thS
    obtain ⟨T0, a1, a2⟩ := InC.begin (F := F) h (by omega)
    obtain ⟨T, v1, v2⟩ := e_goneAf (F := F) h rfl rfl t hd hK hu hF a2
    refine askC h (fm := fun S => f_X11_goneAfter F S 197 (nI u) (nI K)) (0 ≤ nI u ∧ nI u < ai S 198 4) (dP (nI K)) (nI (lvsN (ai S 198) u) - nI (lvsN (mN (ai S 200) (ai S 198) K) u)) 4 2 T ?_ v2 rfl rfl (fun S' h' e => ?_)
    · unfold f_X10_goneAfter
      rw [e_needUser h, ob_some, if_pos c1, if_pos c1, lt_eq, sm_r, e_needDays, ob_some, if_pos c2, if_pos c2, lt_eq, sm_r, a1, ob_some, v1]
    · have eU := eqv_thr S' 0
      have hU : Rel (ui S' 1000 197 0) n := h'.eqv eU
      obtain ⟨T1, u1, u2, u3, u4⟩ := InT.begin (F := F) hU.fx hF
      have n1 : ai (ui S' 1000 197 0) 198 = ai S 198 := e.net
      have n2 : ai (ui S' 1000 197 0) 200 = ai S 200 := e.bytes
      rw [n1, n2] at u2
      obtain ⟨T2, x1, x2, x3, x4⟩ := m_goneAf (F := F) (S := ui S' 1000 197 0) (nI (lvsN (ai S 198) u)) t hd hK (u := u) (by omega) hF u2 (by rw [u4.2.2.1 198 (by omega), n1]) hU.mi.1 u3 u4
      refine ⟨_, T2, ?_, eU.tr x2, x3, by rw [x4, if_neg (fun y => y c1), if_neg (fun y => y c2)]; rfl, fun _ _ => rfl⟩
      unfold f_X11_goneAfter
      rw [e_isUser h', ob_some, e.net]
      simp only [lt_eq]
      rw [m_areDays, ob_some]
      simp only [lt_eq]
      rw [e_passes2, ob_some, show (if ¬ (0 ≤ nI u ∧ nI u < ai S 198 4) then (1 : Int32) else if ¬ dP (nI K) then 2 else 0) = 0 from (if_neg (fun y => y c1)).trans (if_neg (fun y => y c2))]
      simp only [lt_eq, ne_bI]
      rw [if_pos (show (0 ≤ nI u ∧ nI u < ai S 198 4) ∧ dP (nI K) from ⟨c1, c2⟩), m_livesOf hU.fx (B := ai S 200) (by rw [n1]; exact h.w) (by omega) (by omega), ob_some, n1]
      simp only [lt_eq]
      rw [u1, ob_some]
      exact x1
end A
