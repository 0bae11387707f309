/-! deliver -/
theorem endD {F n' : Nat} {fc : Option (Int32 × St × Nat)} {fm : St → Option (Int32 × St)} (code r : Int32) (S1 S2 : St) (hc : fc = some (code, S1, n')) (hm : fm S1 = some (r, S2)) (h3 : si S2 1000 197 = code) (hv : code = 0 → al S2 210 0 = r.toInt64) (hR : Rel S2 n') :
    Ok (Option.bind fc fun z4 => lt z4.1 fun r6 => lt z4.2.1 fun S5 => lt z4.2.2 fun n7 => Option.bind (fm S5) fun z14 => lt z14.1 fun r16 => lt z14.2 fun S15 => Option.bind (f_X11_thrown F S15 197) fun z18 => lt z18.1 fun r20 => lt z18.2 fun S19 =>
      if r20 = r6 then (if ¬ r6 = 0 then (some (S19, n7)) else (cki 0 (ln S19 210) <| if (lg_cmp (al S19 210 (Int32.toNatClampNeg 0)) r16.toInt64) = 0 then (some (S19, n7)) else (none))) else (none)) := by
  subst hc
  simp only [ob_some, lt_eq, hm, e_thrown, h3, if_true]
  by_cases h0 : code = 0
  · rw [if_neg (fun z => z h0), hR.fx.l210, cki_0 (by omega) (by omega), show Int32.toNatClampNeg 0 = 0 from rfl, hv h0, c0, if_pos rfl]
    exact ⟨S2, n', rfl, hR⟩
  · rw [if_pos h0]
    exact ⟨S2, n', rfl, hR⟩
section A11
variable {F : Nat} {xs : Nat → Int32} {L : Nat} {S : St} {n : Nat} {i : Int32}
theorem ok_11 (hF : 100000 ≤ F) (h : Rel S n) (hi : ∀ k : Nat, k < 6 → vp_in (i + nI k) L) : Ok (f_law11 F xs L S n 0 197 210 211 i) := by
  have h1 : vp_in (i + 1) L := hi 1 (by omega)
  have h2 : vp_in (i + 2) L := hi 2 (by omega)
  have h3 : vp_in (i + 3) L := hi 3 (by omega)
  unfold f_law11
  simp only [cki_t h1, cki_t h2, cki_t h3]
  generalize xs (Int32.toNatClampNeg (i + 1)) = x
  generalize xs (Int32.toNatClampNeg (i + 2)) = y
  generalize xs (Int32.toNatClampNeg (i + 3)) = z
  have hx := h.fx
  have w := h.w
  have b4 := w.n4.2
  have b3 := w.n3.2
  obtain ⟨K, k1, k2, k3, k4⟩ := h.2.2.2.1
  -- a call that is refused
  have refuse : ∀ (e : Nat) (code : Int32) (S1 : St), (e = 4 ∧ code = 1 ∨ e = 2 ∧ code = 2 ∨ e = 1 ∧ code = 3) → Eqv S S1 → f_X10_deliver F S n 0 x y z = some (.inl e, S1, n) →
      (∃ T, Sc S1 T ∧ f_X11_deliver F S1 197 x y z = some (0, ui T 1000 197 code)) →
      Ok (Option.bind (f_L_deliver F S n 0 x y z 210) fun z4 => lt z4.1 fun r6 => lt z4.2.1 fun S5 => lt z4.2.2 fun n7 => Option.bind (f_X11_deliver F S5 197 x y z) fun z14 => lt z14.1 fun r16 => lt z14.2 fun S15 => Option.bind (f_X11_thrown F S15 197) fun z18 => lt z18.1 fun r20 => lt z18.2 fun S19 =>
      if r20 = r6 then (if ¬ r6 = 0 then (some (S19, n7)) else (cki 0 (ln S19 210) <| if (lg_cmp (al S19 210 (Int32.toNatClampNeg 0)) r16.toInt64) = 0 then (some (S19, n7)) else (none))) else (none)) := by
    intro e code S1 he ev hc hm
    obtain ⟨T, m1, m2⟩ := hm
    have hl : f_L_deliver F S n 0 x y z 210 = some (code, S1, n) := by
      unfold f_L_deliver
      rw [hc, ob_some]
      simp only [lt_eq, sm_l]
      rcases he with ⟨rfl, rfl⟩ | ⟨rfl, rfl⟩ | ⟨rfl, rfl⟩
      · rw [if_pos rfl]
      · rw [if_neg (by decide), if_pos rfl]
      · rw [if_neg (by decide), if_neg (by decide), if_pos rfl]
    exact endD code 0 S1 (ui T 1000 197 code) hl m2 (by rw [si_ui, if_pos ⟨rfl, rfl⟩]) (fun y0 => by rcases he with ⟨-, rfl⟩ | ⟨-, rfl⟩ | ⟨-, rfl⟩ <;> exact absurd y0 (by decide)) (((h.eqv ev).eqv m1.1).eqv (Eqv.ui code (by decide)))
  -- the model, whatever the class's state
  have model : ∀ S1 : St, FxF S1 → ai S1 198 = ai S 198 → ai S1 200 = ai S 200 → ai S1 201 = ai S 201 → si S1 1007 197 = nI K → ∃ T, Sc S1 T ∧
      (¬ dlP (ai S 198) x y z → f_X11_deliver F S1 197 x y z = some (0, ui T 1000 197 1)) ∧ (dlP (ai S 198) x y z → ¬ (¬ y = 0 ∧ gdC (ai S 201) K) → f_X11_deliver F S1 197 x y z = some (0, ui T 1000 197 2)) ∧
      (dlP (ai S 198) x y z → ¬ y = 0 → gdC (ai S 201) K → ¬ (kN (ai S 198) 7 < 120 ∧ ¬ 8000 < bwN (ai S 198) (ai S 200) (ai S 201) K (kC (ai S 201) K)) → f_X11_deliver F S1 197 x y z = some (0, ui T 1000 197 3)) ∧
      (dlP (ai S 198) x y z → ¬ y = 0 → gdC (ai S 201) K → kN (ai S 198) 7 < 120 → ¬ 8000 < bwN (ai S 198) (ai S 200) (ai S 201) K (kC (ai S 201) K) → MCut T (ai S 201) K ∧ f_X11_deliver F S1 197 x y z = goM F x y z (ui T 1000 197 0)) := by
    intro S1 hx1 e8 e0 e1 e7
    have w1 : WB (ai S1 198) (ai S 200) := by rw [e8]; exact w
    obtain ⟨T, t1, t2, t3, t4, t5⟩ := m_pre (F := F) (x := x) (y := y) (z := z) (decide (dlP (ai S 198) x y z)) hx1 w1 k1 e7 (f := ai S 201) (fun i _ => by rw [e1]) (by omega)
    have head := m_head (F := F) (x := x) (y := y) (z := z) hx1 w1
    have eb : bI (dlP (ai S1 198) x y z) = bI (decide (dlP (ai S 198) x y z) = true) := by
      rw [e8]
      exact bI_congr decide_eq_true_iff.symm
    rw [head, eb]
    rw [e8, e0] at t4 t5
    exact ⟨T, t1, fun a => t2 (fun u => a (of_decide_eq_true u)), fun a => t3 (decide_eq_true a), fun a => t4 (decide_eq_true a), fun a => t5 (decide_eq_true a)⟩
  have pre := e_pre (F := F) (x := x) (y := y) (z := z) h
  by_cases hP : dlP (ai S 198) x y z
  rotate_left
  · rw [if_neg hP] at pre
    obtain ⟨T, t1, t2, -⟩ := model S hx rfl rfl rfl k3
    exact refuse 4 1 S (Or.inl ⟨rfl, rfl⟩) (Eqv.rf S) pre ⟨T, t1, t2 hP⟩
  rw [if_pos hP] at pre
  by_cases hy : y = 0
  · rw [if_pos hy] at pre
    obtain ⟨T, t1, -, t2, -⟩ := model S hx rfl rfl rfl k3
    exact refuse 2 2 S (Or.inr (Or.inl ⟨rfl, rfl⟩)) (Eqv.rf S) pre ⟨T, t1, t2 hP (fun t => t.1 hy)⟩
  rw [if_neg hy] at pre
  obtain ⟨Sx, c1, c2, c3⟩ := e_cut (F := F) (L := K) (f := ai S 201) hx k1 k2 k4 (by omega)
  have hX := h.eqv c2.eqv
  have hxX := hX.fx
  have n8 : ai Sx 198 = ai S 198 := c2.2.2.1 198 (by unfold cutA; omega)
  have n0 : ai Sx 200 = ai S 200 := c2.2.2.1 200 (by unfold cutA; omega)
  have n1 : ai Sx 201 = ai S 201 := c2.2.2.1 201 (by unfold cutA; omega)
  have n7 : si Sx 1007 197 = nI K := (c2.2.1 1007 197 (by omega)).trans k3
  rw [c1, ob_some] at pre
  simp only [lt_eq] at pre
  by_cases hg : gdC (ai S 201) K
  rotate_left
  · rw [pI_f hg, if_neg (fun t => t rfl)] at pre
    obtain ⟨T, t1, -, t2, -⟩ := model Sx hxX n8 n0 n1 n7
    exact refuse 2 2 Sx (Or.inr (Or.inl ⟨rfl, rfl⟩)) c2.eqv pre ⟨T, t1, t2 hP (fun t => hg t.2)⟩
  rw [pI_t hg, if_pos (show ¬ (1 : Int32) = 0 by decide), hxX.r905_0, ob_some, hX.cl.c0.s705, n8] at pre
  by_cases hr1 : kN (ai S 198) 7 < 120
  rotate_left
  · have b7 := w.n7.2
    rw [if_pos (show (120 : Int32) ≤ nI (kN (ai S 198) 7) from nI_le (a := 120) (by omega) (by omega))] at pre
    obtain ⟨T, t1, -, -, t2, -⟩ := model Sx hxX n8 n0 n1 n7
    exact refuse 1 3 Sx (Or.inr (Or.inr ⟨rfl, rfl⟩)) c2.eqv pre ⟨T, t1, t2 hP hy hg (fun t => hr1 t.1)⟩
  have ctX : Cut Sx (ai S 201) K := c3 hg
  have inX : Inp Sx (ai S 201) K := ⟨k1, (c2.2.1 1 20 (by omega)).trans k2, fun i hi => by rw [c2.2.2.1 21 (by unfold cutA; omega)]; exact k4 i hi⟩
  have bw := e_bytesWith (F := F) hxX hX.cl.c0 hxX.sp27 inX ctX hg (by omega)
  rw [n8, n0] at bw
  rw [if_neg (show ¬ (120 : Int32) ≤ nI (kN (ai S 198) 7) from nI_ge (b := 120) hr1 (by omega)), ob_some, hxX.sp27.r710_0, ob_some, hxX.r902_0, ob_some, bw, ob_some] at pre
  by_cases hr2 : 8000 < bwN (ai S 198) (ai S 200) (ai S 201) K (kC (ai S 201) K)
  · rw [if_neg (Int32.not_le.mpr hr2)] at pre
    obtain ⟨T, t1, -, -, t2, -⟩ := model Sx hxX n8 n0 n1 n7
    exact refuse 1 3 Sx (Or.inr (Or.inr ⟨rfl, rfl⟩)) c2.eqv pre ⟨T, t1, t2 hP hy hg (fun t => t.2 hr2)⟩
  rw [if_pos (Int32.not_lt.mp hr2)] at pre
  -- it is taken
  obtain ⟨⟨x1, x2⟩, hu, hz⟩ := hP
  obtain ⟨sn, sn4, -, rfl⟩ := ixU h ⟨x1, x2⟩
  obtain ⟨rec, rfl, r4⟩ := (areU b4).mp hu
  have hrc : rec < 1024 := Nat.lt_of_lt_of_le r4 (show 2 ^ kN (ai S 198) 4 ≤ 2 ^ 10 from Nat.pow_le_pow_right (by omega) b4)
  have hru : ∀ u, rec.testBit u = true → u < kN (ai S 198) 4 := fun u hb => by
    by_cases t : u < kN (ai S 198) 4
    · exact t
    · rw [Nat.testBit_lt_two_pow (Nat.lt_of_lt_of_le r4 (Nat.pow_le_pow_right (by omega) (by omega)))] at hb
      cases hb
  have hcl : z = -1 ∨ ∃ cc, z = nI cc ∧ cc < kN (ai S 198) 3 := by
    rcases hz with t | t
    · exact Or.inl t
    · obtain ⟨cc, a, -, b⟩ := ixC h t
      exact Or.inr ⟨cc, b, a⟩
  obtain ⟨T, nT, q, g1, g2, ⟨g3, g4, g5, g6⟩, g7⟩ := e_go (F := F) (L := K) (sn := sn) (rec := rec) (c := z) hX (by rw [n1]; exact ctX) k1 inX.2.1 n7 (by rw [n1]; exact inX.2.2) (by rw [n1]; exact hg) (by rw [n8]; exact hr1) (by omega) hrc (by rw [n8]; exact hru) (by rw [n8]; exact hcl) hF
  rw [n8] at g3
  rw [n0] at g4
  rw [n1] at g5 g7
  obtain ⟨S1, hS1⟩ : ∃ S1, S1 = ual T 210 0 q.toInt64 := ⟨_, rfl⟩
  have hl : f_L_deliver F S n 0 (nI sn) (nI rec) z 210 = some (0, S1, nT) := by
    unfold f_L_deliver
    rw [pre]
    have g1' := g1
    simp only [lt_eq] at g1'
    rw [g1', ob_some]
    simp only [lt_eq, sm_r]
    rw [g2.l210, cki_0 (by omega) (by omega), hS1]
    rfl
  obtain ⟨U, t1, -, -, -, t2⟩ := model S1 (by rw [hS1]; exact g2.agr (fun _ _ _ _ => rfl) (fun _ _ => rfl) rfl) (by rw [hS1]; exact g3) (by rw [hS1]; exact g4) (by rw [hS1]; exact g5) (by rw [hS1]; exact g6)
  obtain ⟨t3, t4⟩ := t2 ⟨⟨x1, x2⟩, hu, hz⟩ hy hg hr1 hr2
  rw [← hS1] at g7
  obtain ⟨V, v1, v2, v3, v4⟩ := g7 U t1 t3
  exact endD 0 q S1 V hl (t4.trans v1) v2 (fun _ => by rw [v3, hS1, al_ual, if_pos ⟨rfl, rfl⟩]) v4
end A11
