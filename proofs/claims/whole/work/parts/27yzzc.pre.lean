/-! whether a message is taken: both sides -/
section Pd3
variable {F : Nat} {S : St} {n : Nat} {x y z : Int32}
abbrev dlP (N : Nat → Int32) (x y z : Int32) : Prop := (0 ≤ x ∧ x < N 4) ∧ inU N y ∧ (z = -1 ∨ (0 ≤ z ∧ z < N 3))
def goM (F : Nat) (x y z : Int32) (T : St) : Option (Int32 × St) := Option.bind (f_X11_remember F T 197) fun S73 => Option.bind (f_X11_sizeIn F S73 197) fun z76 => lt z76.1 fun r78 => lt z76.2 fun S77 => f_X11_deliver_L112 F F S77 197 x y z r78 0 0
theorem m_L88 (T : St) (a b c : Bool) : f_X11_deliver_L88 F T 197 x y z (bI (c = true)) (bI (b = true)) (bI (a = true)) 197 = if a = true ∧ b = true ∧ c = true then goM F x y z (ui T 1000 197 0) else some (0, ui T 1000 197 (if ¬ a = true then 1 else if ¬ b = true then 2 else if ¬ c = true then 3 else 0)) := by
  unfold f_X11_deliver_L88
  rw [e_passes3, ob_some]
  simp only [lt_eq]
  cases a <;> cases b <;> cases c <;> rfl
theorem m_head {B : Nat → Int32} (hx : FxF S) (w : WB (ai S 198) B) : f_X11_deliver F S 197 x y z = f_X11_deliver_L34 F S 197 x y z (bI (dlP (ai S 198) x y z)) := by
  unfold f_X11_deliver
  rw [m_isUser hx w, ob_some]
  simp only [lt_eq, eq_bI]
  unfold f_X11_deliver_L33 f_X11_deliver_L29
  by_cases h1 : 0 ≤ x ∧ x < ai S 198 4
  rotate_left
  · rw [if_neg h1, bI_f (fun t => h1 t.1)]
  rw [if_pos h1, m_areUsers hx w, ob_some]
  simp only [lt_eq, eq_bI]
  by_cases h2 : inU (ai S 198) y
  rotate_left
  · rw [if_neg h2, bI_f (fun t => h2 t.2.1)]
  rw [if_pos h2]
  by_cases h3 : z = -1
  · rw [if_pos h3, bI_t ⟨h1, h2, Or.inl h3⟩]
  rw [if_neg h3, m_isClass hx w, ob_some]
  simp only [lt_eq, eq_bI]
  by_cases h4 : 0 ≤ z ∧ z < ai S 198 3
  · rw [if_pos h4, bI_t ⟨h1, h2, Or.inr h4⟩]
  · rw [if_neg h4, bI_f (fun t => by rcases t.2.2 with u | u; exact h3 u; exact h4 u)]
/-- the model before it takes the message -/
theorem m_pre {B f : Nat → Int32} {L : Nat} (p : Bool) (hx : FxF S) (w : WB (ai S 198) B) (hL : L ≤ 1200) (h1 : si S 1007 197 = nI L) (hf : ∀ i, i < L → ai S 201 i = f i) (hF : 10000 ≤ F) :
    ∃ T, Sc S T ∧ (¬ p = true → f_X11_deliver_L34 F S 197 x y z (bI (p = true)) = some (0, ui T 1000 197 1)) ∧ (p = true → ¬ (¬ y = 0 ∧ gdC f L) → f_X11_deliver_L34 F S 197 x y z (bI (p = true)) = some (0, ui T 1000 197 2)) ∧
      (p = true → ¬ y = 0 → gdC f L → ¬ (kN (ai S 198) 7 < 120 ∧ ¬ 8000 < bwN (ai S 198) (ai S 200) f L (kC f L)) → f_X11_deliver_L34 F S 197 x y z (bI (p = true)) = some (0, ui T 1000 197 3)) ∧
      (p = true → ¬ y = 0 → gdC f L → kN (ai S 198) 7 < 120 → ¬ 8000 < bwN (ai S 198) (ai S 200) f L (kC f L) → MCut T f L ∧ f_X11_deliver_L34 F S 197 x y z (bI (p = true)) = goM F x y z (ui T 1000 197 0)) := by
  have b7 := w.n7.2
  have noq : ∀ T, f_X11_deliver_L51 F T 197 x y z (bI (p = true)) = some (0, ui T 1000 197 (if ¬ p = true then 1 else 2)) := fun T => by
    unfold f_X11_deliver_L51 f_X11_deliver_L52 f_X11_deliver_L83
    rw [if_pos rfl]
    have := m_L88 (F := F) (x := x) (y := y) (z := z) T p false true
    rw [if_neg (fun t => by cases t.2.1)] at this
    refine this.trans ?_
    cases p <;> rfl
  by_cases hy : y = 0
  · refine ⟨S, Sc.rf S, fun hp => ?_, fun hp _ => ?_, fun _ t => absurd hy t, fun _ t => absurd hy t⟩ <;> unfold f_X11_deliver_L34
    · rw [if_pos hy, noq, if_pos hp]
    · rw [if_pos hy, noq, if_neg (fun t => t hp)]
  obtain ⟨T, t1, t2, t3⟩ := m_isContent (F := F) hx hL h1 hf hF
  have hxT := t2.fx hx
  have nT := t2.n
  have bT := t2.b
  by_cases hg : gdC f L
  rotate_left
  · refine ⟨T, t2, fun hp => ?_, fun hp _ => ?_, fun _ _ t => absurd t hg, fun _ _ t => absurd t hg⟩ <;> unfold f_X11_deliver_L34
    · rw [if_neg hy, t1, ob_some]
      simp only [lt_eq]
      rw [pI_f hg, if_pos rfl, noq, if_pos hp]
    · rw [if_neg hy, t1, ob_some]
      simp only [lt_eq]
      rw [pI_f hg, if_pos rfl, noq, if_neg (fun t => t hp)]
  have fT : ∀ i, i < L → ai T 201 i = f i := fun i h => by rw [t2.1.2.2.1 201 (by decide)]; exact hf i h
  have room := m_hasRoom (F := F) (B := B) hxT (by rw [nT]; exact w) t3 hL fT hF
  rw [nT, bT] at room
  have head : f_X11_deliver_L34 F S 197 x y z (bI (p = true)) = f_X11_deliver_L52 F T 197 x y z (bI (p = true)) 1 := by
    unfold f_X11_deliver_L34
    rw [if_neg hy, t1, ob_some]
    simp only [lt_eq]
    rw [pI_t hg, if_neg (show ¬ (1 : Int32) = 0 by decide)]
  have tail : f_X11_deliver_L52 F T 197 x y z (bI (p = true)) 1 = if kN (ai S 198) 7 < 120 ∧ ¬ 8000 < bwN (ai S 198) (ai S 200) f L (kC f L) then (if p = true then goM F x y z (ui T 1000 197 0) else some (0, ui T 1000 197 1)) else some (0, ui T 1000 197 (if p = true then 3 else 1)) := by
    have yes : f_X11_deliver_L83 F T 197 x y z 1 (bI (p = true)) 197 = (if p = true then goM F x y z (ui T 1000 197 0) else some (0, ui T 1000 197 1)) := by
      unfold f_X11_deliver_L83
      refine (m_L88 (F := F) (x := x) (y := y) (z := z) T p true true).trans ?_
      cases p <;> rfl
    have no : f_X11_deliver_L87 F T 197 x y z 1 (bI (p = true)) 197 = some (0, ui T 1000 197 (if p = true then 3 else 1)) := by
      unfold f_X11_deliver_L87
      refine (m_L88 (F := F) (x := x) (y := y) (z := z) T p true false).trans ?_
      cases p <;> rfl
    unfold f_X11_deliver_L52
    rw [if_neg (show ¬ (1 : Int32) = 0 by decide), hxT.r1001_197, ob_some, hxT.l198, show (7 : Int32) = nI 7 from rfl, cki_nI (by omega) (by omega), nI_clamp (by omega), nT, w.n7.1]
    by_cases z1 : kN (ai S 198) 7 < 120
    rotate_left
    · rw [if_pos (show (120 : Int32) ≤ nI (kN (ai S 198) 7) from nI_le (a := 120) (by omega) (by omega)), if_neg (fun t => z1 t.1)]
      exact no
    rw [if_neg (show ¬ (120 : Int32) ≤ nI (kN (ai S 198) 7) from nI_ge (b := 120) z1 (by omega)), room, ob_some]
    simp only [lt_eq]
    by_cases z2 : 8000 < bwN (ai S 198) (ai S 200) f L (kC f L)
    · rw [if_pos z2, if_pos rfl, if_neg (fun t => t.2 z2)]
      exact no
    · rw [if_neg z2, if_neg (show ¬ (1 : Int32) = 0 by decide), if_pos ⟨z1, z2⟩]
      exact yes
  rw [head, tail]
  refine ⟨T, t2, fun hp => ?_, fun hp t => absurd ⟨hy, hg⟩ t, fun hp _ _ t => ?_, fun hp _ _ a b => ⟨t3, ?_⟩⟩
  · by_cases z1 : kN (ai S 198) 7 < 120 ∧ ¬ 8000 < bwN (ai S 198) (ai S 200) f L (kC f L)
    · rw [if_pos z1, if_neg hp]
    · rw [if_neg z1, if_neg hp]
  · rw [if_neg t, if_pos hp]
  · rw [if_pos ⟨a, b⟩, if_pos hp]
/-- the class before it takes the message -/
theorem e_pre (h : Rel S n) : f_X10_deliver F S n 0 x y z = if dlP (ai S 198) x y z then (if y = 0 then f_X10_deliver_L56 F S n else Option.bind (f_X1_cut F S 24) fun z10 => lt z10.1 fun r12 => lt z10.2 fun S11 =>
    if ¬ r12 = 0 then
    (Option.bind (sr S11 905 0) fun j15 =>
    if 120 ≤ (si S11 705 j15) then
    (f_X10_deliver_L98 F S11 n)
    else
    (Option.bind (sr S11 905 0) fun j17 =>
    Option.bind (sr S11 710 j17) fun j18 =>
    Option.bind (sr S11 902 0) fun j19 =>
    Option.bind (f_X9_bytesWith F S11 j18 j19) fun z20 => lt z20.1 fun r22 => lt z20.2 fun S21 =>
    if r22 ≤ 8000 then
    (Option.bind (f_X10_remember F S21 0) fun S26 =>
    Option.bind (sr S26 905 0) fun j29 =>
    Option.bind (sr S26 902 0) fun j30 =>
    Option.bind (f_X8_receive F S26 n j29 j30 x y z) fun z31 => lt z31.1 fun r33 => lt z31.2.1 fun S32 => lt z31.2.2 fun n34 =>
    Option.bind (sr S32 900 0) fun j38 =>
    Option.bind (f_X0_cutTo F S32 j38 ((0 : Int32))) fun S40 =>
    some (.inr r33, S40, n34))
    else
    (f_X10_deliver_L98 F S21 n)))
    else
    (f_X10_deliver_L56 F S11 n)) else some (.inl 4, S, n) := by
  obtain ⟨r, r1, r2⟩ := e_allUsers (F := F) h.cl.c0
  have hx := h.fx
  have l15 : f_X10_deliver_L15 F S n 0 x y z = if inU (ai S 198) y then (if y = 0 then f_X10_deliver_L56 F S n else Option.bind (f_X1_cut F S 24) fun z10 => lt z10.1 fun r12 => lt z10.2 fun S11 =>
    if ¬ r12 = 0 then
    (Option.bind (sr S11 905 0) fun j15 =>
    if 120 ≤ (si S11 705 j15) then
    (f_X10_deliver_L98 F S11 n)
    else
    (Option.bind (sr S11 905 0) fun j17 =>
    Option.bind (sr S11 710 j17) fun j18 =>
    Option.bind (sr S11 902 0) fun j19 =>
    Option.bind (f_X9_bytesWith F S11 j18 j19) fun z20 => lt z20.1 fun r22 => lt z20.2 fun S21 =>
    if r22 ≤ 8000 then
    (Option.bind (f_X10_remember F S21 0) fun S26 =>
    Option.bind (sr S26 905 0) fun j29 =>
    Option.bind (sr S26 902 0) fun j30 =>
    Option.bind (f_X8_receive F S26 n j29 j30 x y z) fun z31 => lt z31.1 fun r33 => lt z31.2.1 fun S32 => lt z31.2.2 fun n34 =>
    Option.bind (sr S32 900 0) fun j38 =>
    Option.bind (f_X0_cutTo F S32 j38 ((0 : Int32))) fun S40 =>
    some (.inr r33, S40, n34))
    else
    (f_X10_deliver_L98 F S21 n)))
    else
    (f_X10_deliver_L56 F S11 n)) else some (.inl 4, S, n) := by
    unfold f_X10_deliver_L15
    rw [hx.r905_0, ob_some, r1, ob_some, r2, ob_some]
    simp only [lt_eq]
    rw [hx.r902_0, ob_some]
  unfold f_X10_deliver
  rw [e_needUser h, ob_some]
  simp only [lt_eq]
  by_cases h1 : 0 ≤ x ∧ x < ai S 198 4
  rotate_left
  · rw [if_neg h1, if_neg (fun t : dlP (ai S 198) x y z => h1 t.1), sm_l]
  rw [if_pos h1, sm_r, e_needClass h, ob_some]
  simp only [lt_eq]
  rw [l15]
  by_cases h2 : inU (ai S 198) y
  rotate_left
  · rw [if_neg h2, if_neg (fun t : dlP (ai S 198) x y z => h2 t.2.1)]
    by_cases h3 : z = -1
    · rw [if_pos h3]
    · rw [if_neg h3]
      by_cases h4 : 0 ≤ z ∧ z < ai S 198 3
      · rw [if_pos h4, sm_r]
      · rw [if_neg h4, sm_l]
  rw [if_pos h2]
  by_cases h3 : z = -1
  · rw [if_pos h3, if_pos (show dlP (ai S 198) x y z from ⟨h1, h2, Or.inl h3⟩)]
    rfl
  · rw [if_neg h3]
    by_cases h4 : 0 ≤ z ∧ z < ai S 198 3
    · rw [if_pos h4, sm_r, if_pos (show dlP (ai S 198) x y z from ⟨h1, h2, Or.inr h4⟩)]
      rfl
    · rw [if_neg h4, sm_l, if_neg (fun t : dlP (ai S 198) x y z => by rcases t.2.2 with u | u; exact h3 u; exact h4 u)]
end Pd3
