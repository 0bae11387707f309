/-! predictions: until something is so -/
def ansP (P : Nat → Prop) (d0 : Nat) (v : Int32) : Prop := (∃ j, j ≤ 2000 ∧ (∀ i, i < j → P i) ∧ ¬ P j ∧ v = nI (d0 + j)) ∨ ((∀ j, j ≤ 2000 → P j) ∧ v = -1)
theorem ansP_u {P : Nat → Prop} {d0 : Nat} {v w : Int32} (a : ansP P d0 v) (b : ansP P d0 w) : v = w := by
  rcases a with ⟨j, j1, j2, j3, j4⟩ | ⟨a1, a2⟩
  · rcases b with ⟨k, k1, k2, k3, k4⟩ | ⟨b1, b2⟩
    · have : j = k := by
        rcases Nat.lt_trichotomy j k with h | h | h
        · exact absurd (k2 j h) j3
        · exact h
        · exact absurd (j2 k h) k3
      rw [j4, k4, this]
    · exact absurd (b1 j j1) j3
  · rcases b with ⟨k, k1, k2, k3, k4⟩ | ⟨b1, b2⟩
    · exact absurd (a1 k k1) k3
    · rw [a2, b2]
section Mlo
variable {F : Nat} {S : St} {n : Nat} {N B : Nat → Int32} {K : Nat}
theorem mN_lo (t : ThS B N K) : ∀ i, i ≤ K → ∀ k, k < 1171 → ¬ k = 9 → ¬ k = 2 → mN B N i k = N k := by
  intro i
  induction i with
  | zero => intro _ k _ _ _; rfl
  | succ i ih =>
    intro hi k h1 h9 h2
    obtain ⟨w, -⟩ := t i (by omega)
    rw [mN_s, dyN_lo isLg_0 w.n8.2 w.n4.2 w.n7.2 h1 h9 h2]
    exact ih (by omega) k h1 h9 h2
theorem mN_k (t : ThS B N K) {i : Nat} (hi : i ≤ K) {k : Nat} (h1 : k < 1171) (h9 : ¬ k = 9) (h2 : ¬ k = 2) : kN (mN B N i) k = kN N k := by unfold kN; rw [mN_lo t i hi k h1 h9 h2]
theorem cN_k (t : ThS B N K) {i : Nat} (hi : i ≤ K) {k : Nat} (h1 : k < 1171) (h9 : ¬ k = 9) (h2 : ¬ k = 2) : kN (cN B N i) k = kN N k := by rw [← (t i hi).2.2.2.2.kn (k := k) (by omega) h9]; exact mN_k t hi h1 h9 h2
theorem Rel.thS (h : Rel S n) : ThS (ai S 200) (ai S 198) 2000 ∧ kN (ai S 198) 2 + 2000 ≤ 22000 := by
  have d := h.cl.dy.resolve_left (by omega)
  obtain ⟨T, -, t2, t3, t4, -⟩ := e_lookAhead (F := 1000) h (by omega)
  exact ⟨thS_g t2 t3 t4 (by omega), by omega⟩
end Mlo
section R48
variable {F : Nat} {S : St} {n : Nat} {N B : Nat → Int32}
/-- the day on which it is so, seen at a day of the way -/
theorem ansP_at {P : Nat → Prop} {d0 i : Nat} (hi : i ≤ 2000) (h : ∀ j, j < i → P j) (hp : ¬ P i) : ansP P d0 (nI (d0 + i)) := Or.inl ⟨i, hi, h, hp, rfl⟩
theorem ansP_end {P : Nat → Prop} {d0 : Nat} (h : ∀ j, j ≤ 2000 → P j) : ansP P d0 (-1) := Or.inr ⟨h, rfl⟩
theorem e_remOn (t : ThS B N 2000) (hd : kN N 2 + 2000 ≤ 22000) {p : Nat} (hp : p < kN N 8) (hp2 : p < 480) (hF : 100000 ≤ F) {T0 : St} (c0 : InC S n B N 0 T0) : ∃ v T, f_X10_removedOn_L11 F F T0 0 (nI p) 0 = some (.inr v, T) ∧ Eqv S T ∧ ansP (fun j => isN (mN B N j) p = 1) (kN N 2) v := by
  have fin : ∀ i T, i ≤ 2000 → InC S n B N i T → f_X10_removedOn_L56 F T 0 (nI p) = some (.inr (if isN (mN B N i) p = 1 then -1 else nI (kN N 2 + i)), T) := by
    intro i T hi c
    obtain ⟨c1, c2, c3, c4, c5, c6⟩ := c
    have ec := (t i hi).2.2.2.2
    have s7 : si T 701 48 = nI (kN N 2 + i) := by rw [c1.c0.s701, c1.c0.wb.n2.1, c4]
    unfold f_X10_removedOn_L56
    rw [c6.r906_0, ob_some, c2.r710_0, ob_some, e_isStored c1.c0 c2 (by rw [cN_k t hi (by omega) (by omega) (by omega)]; exact hp), ob_some, ← ec.is hp2]
    simp only [lt_eq, eq_bI]
    by_cases z : isN (mN B N i) p = 1
    · rw [if_pos z, if_pos z]
    · rw [if_neg z, if_neg z, c6.r906_0, ob_some, s7]
  have loop : ∀ d i fu T, i + d = 2000 → d < fu → InC S n B N i T → (∀ j, j < i → isN (mN B N j) p = 1) → ∃ v T', f_X10_removedOn_L11 F fu T 0 (nI p) (nI i) = some (.inr v, T') ∧ Eqv S T' ∧ ansP (fun j => isN (mN B N j) p = 1) (kN N 2) v := by
    intro d
    induction d with
    | zero =>
      intro i fu T hi hfu c m
      obtain ⟨fu, rfl⟩ : ∃ f', fu = f' + 1 := ⟨fu - 1, by omega⟩
      have : i = 2000 := by omega
      subst this
      refine ⟨if isN (mN B N 2000) p = 1 then -1 else nI (kN N 2 + 2000), T, ?_, c.2.2.2.2.1, ?_⟩
      · unfold f_X10_removedOn_L11
        rw [if_pos (by decide), fin 2000 T (Nat.le_refl _) c]
      · by_cases z : isN (mN B N 2000) p = 1
        · rw [if_pos z]
          exact ansP_end (fun j hj => by
            by_cases y : j = 2000
            · rw [y]; exact z
            · exact m j (by omega))
        · rw [if_neg z]
          exact ansP_at (Nat.le_refl _) m z
    | succ d ih =>
      intro i fu T hi hfu c m
      obtain ⟨fu, rfl⟩ : ∃ f', fu = f' + 1 := ⟨fu - 1, by omega⟩
      have cc := c
      obtain ⟨c1, c2, c3, c4, c5, c6⟩ := cc
      have ec := (t i (by omega)).2.2.2.2
      have f := fin i T (by omega) c
      unfold f_X10_removedOn_L11
      rw [show (2000 : Int32) = nI 2000 from rfl, if_neg (nI_ge (by omega) (by omega)), c6.r906_0, ob_some, c2.r710_0, ob_some, e_isStored c1.c0 c2 (by rw [cN_k t (by omega) (by omega) (by omega) (by omega)]; exact hp), ob_some, ← ec.is hp2]
      simp only [lt_eq, eq_bI]
      by_cases z : isN (mN B N i) p = 1
      rotate_left
      · rw [if_neg z] at f ⊢
        exact ⟨_, T, f, c5, ansP_at (by omega) m z⟩
      rw [if_pos z] at f ⊢
      obtain ⟨r, r1, r2⟩ := c.rest (F := F) t (by omega)
      rw [c6.r906_0, ob_some, r1, ob_some]
      simp only [lt_eq]
      rcases r2 with r2 | ⟨r2, r3⟩
      · rw [r2, if_neg (fun y => y rfl), c6.r906_0, ob_some]
        obtain ⟨q, T1, q1, q2⟩ := c.step (F := F) (by omega) (by omega)
        obtain ⟨v, T', x1, x2⟩ := ih (i + 1) fu T1 (by omega) (by omega) q2 (fun j hj => by
          by_cases y : j = i
          · rw [y]; exact z
          · exact m j (by omega))
        refine ⟨v, T', ?_, x2⟩
        rw [q1, ob_some, nI_1]
        simp only [lt_eq]
        exact x1
      · rw [r2, if_pos (show ¬ (1 : Int32) = 0 by decide)]
        refine ⟨_, T, f, c5, ansP_end (fun j hj => ?_)⟩
        by_cases y : j < i
        · exact m j y
        · obtain ⟨e, -⟩ := restP.seq t hd r3 (j - i) (by omega)
          rw [show i + (j - i) = j by omega] at e
          rw [e.is (fun k z => by omega) hp2]
          exact z
  exact loop 2000 0 F T0 (by omega) (by omega) c0 (fun j hj => by omega)
theorem m_remOn (t : ThS B N 2000) (hd : kN N 2 + 2000 ≤ 22000) {p : Nat} (hp : p < kN N 8) (hF : 100000 ≤ F) {T0 : St} (c0 : InT T0 B N 0 T0) (hN : ai T0 198 = N) (s0 : si S 1005 197 = 0) (b6 : ∀ k, k < 6391 → ai T0 206 k = ai S 198 k) (b : BgT S T0) : ∃ v T, f_X11_removedOn_L20 F F T0 197 (nI p) 0 = some (v, T) ∧ (Eqv S T ∧ al T = al S ∧ si T 1000 197 = si S 1000 197) ∧ ansP (fun j => isN (mN B N j) p = 1) (kN N 2) v := by
  have fin : ∀ i T, i ≤ 2000 → InT T0 B N i T → ∃ T2, f_X11_removedOn_L46 F T 197 (nI p) = some (if isN (mN B N i) p = 1 then -1 else nI (kN N 2 + i), T2) ∧ Eqv S T2 ∧ al T2 = al S ∧ si T2 1000 197 = si S 1000 197 := by
    intro i T hi c
    obtain ⟨T2, e1, e2⟩ := c.end t hi hN s0 b6 b hF
    obtain ⟨c1, c2, c3, c4, c5, c6⟩ := c
    obtain ⟨w, k2, -⟩ := t i hi
    refine ⟨T2, ?_, e2⟩
    unfold f_X11_removedOn_L46 f_X11_removedOn_L64
    rw [m_isStored c5 (B := B) (by rw [c2]; exact w) (by rw [c2, mN_k t hi (by omega) (by omega) (by omega)]; exact hp), ob_some, c2]
    simp only [lt_eq, eq_bI]
    by_cases z : isN (mN B N i) p = 1
    · rw [if_pos z, if_pos z, e1, ob_some]
    · rw [if_neg z, if_neg z, c5.r1001_197, ob_some, c5.l198, show (2 : Int32) = nI 2 from rfl, cki_nI (by omega) (by omega), nI_clamp (by omega), e1, ob_some, c2, w.n2.1, k2]
  have loop : ∀ d i fu T, i + d = 2000 → d < fu → InT T0 B N i T → (∀ j, j < i → isN (mN B N j) p = 1) → ∃ v T', f_X11_removedOn_L20 F fu T 197 (nI p) (nI i) = some (v, T') ∧ (Eqv S T' ∧ al T' = al S ∧ si T' 1000 197 = si S 1000 197) ∧ ansP (fun j => isN (mN B N j) p = 1) (kN N 2) v := by
    intro d
    induction d with
    | zero =>
      intro i fu T hi hfu c m
      obtain ⟨fu, rfl⟩ : ∃ f', fu = f' + 1 := ⟨fu - 1, by omega⟩
      have : i = 2000 := by omega
      subst this
      obtain ⟨T2, f1, f2⟩ := fin 2000 T (Nat.le_refl _) c
      refine ⟨if isN (mN B N 2000) p = 1 then -1 else nI (kN N 2 + 2000), T2, ?_, f2, ?_⟩
      · unfold f_X11_removedOn_L20
        rw [if_pos (by decide), f1]
      · by_cases z : isN (mN B N 2000) p = 1
        · rw [if_pos z]
          exact ansP_end (fun j hj => by
            by_cases y : j = 2000
            · rw [y]; exact z
            · exact m j (by omega))
        · rw [if_neg z]
          exact ansP_at (Nat.le_refl _) m z
    | succ d ih =>
      intro i fu T hi hfu c m
      obtain ⟨fu, rfl⟩ : ∃ f', fu = f' + 1 := ⟨fu - 1, by omega⟩
      have cc := c
      obtain ⟨c1, c2, c3, c4, c5, c6⟩ := cc
      obtain ⟨w, k2, -⟩ := t i (by omega)
      unfold f_X11_removedOn_L20
      rw [show (2000 : Int32) = nI 2000 from rfl, if_neg (nI_ge (by omega) (by omega)), m_isStored c5 (B := B) (by rw [c2]; exact w) (by rw [c2, mN_k t (by omega) (by omega) (by omega) (by omega)]; exact hp), ob_some, c2]
      simp only [lt_eq, eq_bI]
      by_cases z : isN (mN B N i) p = 1
      rotate_left
      · obtain ⟨T2, f1, f2⟩ := fin i T (by omega) c
        rw [if_neg z] at f1 ⊢
        exact ⟨_, T2, f1, f2, ansP_at (by omega) m z⟩
      rw [if_pos z]
      obtain ⟨q, T1, q1, q2⟩ := c.step (F := F) t (by omega) hd (by omega)
      obtain ⟨v, T', x1, x2⟩ := ih (i + 1) fu T1 (by omega) (by omega) q2 (fun j hj => by
        by_cases y : j = i
        · rw [y]; exact z
        · exact m j (by omega))
      refine ⟨v, T', ?_, x2⟩
      rw [q1, ob_some, nI_1]
      simp only [lt_eq]
      exact x1
  exact loop 2000 0 F T0 (by omega) (by omega) c0 (fun j hj => by omega)
end R48
section A
variable {F : Nat} {xs : Nat → Int32} {L : Nat} {S : St} {n : Nat} {i : Int32}
theorem ok_48 (hF : 100000 ≤ F) (h : Rel S n) (hi : ∀ k : Nat, k < 6 → vp_in (i + nI k) L) : Ok (f_law48 F xs L S n 0 197 210 211 i) := by
  have h1 : vp_in (i + 1) L := hi 1 (by omega)
  unfold f_law48 f_L_removedOn
  simp only [cki_t h1]
  generalize xs (Int32.toNatClampNeg (i + 1)) = x
  have hx := h.fx
  have b8 := h.w.n8.2
  by_cases hc : (0 ≤ x ∧ x < ai S 198 8) ∧ isN (ai S 198) x.toNatClampNeg = 1
  rotate_left
  · refine askB h (fm := fun S => f_X11_removedOn F S 197 x) ((0 ≤ x ∧ x < ai S 198 8) ∧ isN (ai S 198) x.toNatClampNeg = 1) 0 4 1 S ?_ (Eqv.rf S) rfl (by decide) (fun S' h' e => ?_)
    · unfold f_X10_removedOn
      rw [e_needPart h, ob_some, if_neg hc, if_neg hc]
      rfl
    · refine ⟨0, ui S' 1000 197 1, ?_, eqv_thr S' _, rfl, by rw [if_pos hc]; rfl, fun y => absurd y hc⟩
      unfold f_X11_removedOn
      rw [m_isStoredX h'.fx h'.w, ob_some, e.net]
      simp only [lt_eq]
      rw [e_passes, ob_some, if_pos hc]
      simp only [lt_eq, ne_bI]
      rw [if_neg hc]
  · obtain ⟨p, hp, rfl⟩ := ix (k := kN (ai S 198) 8) (by omega) (by have := hc.1; rw [h.w.n8.1] at this; exact this)
    obtain ⟨t, hd⟩ := h.thS
    obtain ⟨T0, a1, a2⟩ := InC.begin (F := F) h (by omega)
    obtain ⟨v, T, v1, v2, v3⟩ := e_remOn (F := F) t hd hp (by omega) hF a2
    refine askB h (fm := fun S => f_X11_removedOn F S 197 (nI p)) ((0 ≤ nI p ∧ nI p < ai S 198 8) ∧ isN (ai S 198) (nI p).toNatClampNeg = 1) v 4 1 T ?_ v2 rfl (by decide) (fun S' h' e => ?_)
    · unfold f_X10_removedOn
      rw [e_needPart h, ob_some, if_pos hc, if_pos hc, lt_eq, sm_r, a1, ob_some, v1]
    · have eU := eqv_thr S' 0
      have hU : Rel (ui S' 1000 197 0) n := h'.eqv eU
      obtain ⟨T1, u1, u2, u3, u4⟩ := InT.begin (F := F) hU.fx hF
      have n1 : ai (ui S' 1000 197 0) 198 = ai S 198 := e.net
      have n2 : ai (ui S' 1000 197 0) 200 = ai S 200 := e.bytes
      rw [n1, n2] at u2
      obtain ⟨v', T2, x1, ⟨x2, x3, x4⟩, x5⟩ := m_remOn (F := F) (S := ui S' 1000 197 0) t hd hp hF u2 (by rw [u4.2.2.1 198 (by omega), n1]) hU.mi.1 u3 u4
      refine ⟨v', T2, ?_, eU.tr x2, x3, by rw [x4, if_neg (fun y => y hc)]; rfl, fun _ => ansP_u x5 v3⟩
      unfold f_X11_removedOn
      rw [m_isStoredX h'.fx h'.w, ob_some, e.net]
      simp only [lt_eq]
      rw [e_passes, ob_some, show (if ¬ ((0 ≤ nI p ∧ nI p < ai S 198 8) ∧ isN (ai S 198) (nI p).toNatClampNeg = 1) then (1 : Int32) else 0) = 0 from if_neg (fun y => y hc)]
      simp only [lt_eq, ne_bI]
      rw [if_pos hc, u1, ob_some, x1]
end A
