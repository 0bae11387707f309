/-! a hold is added: both sides -/
section Ah
variable {F : Nat} {f D : Nat → Int32} {L n r s : Nat} {C M : St}
theorem e_addHold {w w2 : Int64} {u a b k : Nat} {v4 : Int32} {K t : Nat} (h : Sim f L n r C M s) (c10 : kN (ai M 199) 6 < 6) (hu : ai M 199 (205 + 21 * kN (ai M 199) 6) = nI u ∧ u < kN (ai M 199) 4)
    (ha : ai M 199 (206 + 21 * kN (ai M 199) 6) = nI a ∧ a ≤ 9999) (hb : ai M 199 (207 + 21 * kN (ai M 199) 6) = nI b ∧ b ≤ 20000) (h4v : v4 = nI b ∨ (v4 = 1000000000 ∧ nI b = 20000)) (hact : ai M 199 (208 + 21 * kN (ai M 199) 6) = 1)
    (hk : ai M 199 (209 + 21 * kN (ai M 199) 6) = nI k ∧ k ≤ 10) (hl : ∀ x, x < k → letB (ai M 199 (210 + 21 * kN (ai M 199) 6 + x))) (hw2 : w2 = wdN (ai M 199) (210 + 21 * kN (ai M 199) 6) k)
    (hK : 1 ≤ K ∧ K ≤ 6) (lets : ∀ k, k < K → letB (f (t + k))) (rows : ∀ x, x < 6 → ai M 199 (220 + 21 * kN (ai M 199) 6 + x) = if K ≤ x then 0 else f (t + x)) (hw : w = lN (wv (fun k => f (t + k)) K)) :
    ∃ C', f_X7_addHold F C r w (nI u) (nI a) v4 w2 = some C' ∧ Sim f L n r C' (uai M 199 6 (ai M 199 6 + 1)) s ∧ (∀ k, ¬ (r ≤ k ∧ k ≤ r + 18) → SameO C C' k) ∧ sr C' = sr C ∧ ln C' = ln C := by
  obtain ⟨h1, h2, h3, h4, h5, h6, h7, h8, ⟨c3, c4, c5, c6⟩, ⟨w1, w2', w3, w4, w5⟩, h11⟩ := h
  obtain ⟨ru, ⟨q0, q1, q3, q4, q5, q6⟩, nc, nu, ng, nh⟩ := h8
  have b3 := c3.2
  have b4 := c4.2
  generalize hD : ai M 199 = D at *
  generalize hcc : kN D 6 = c at *
  have e4 : D 6 = nI c := by rw [← hcc]; exact c6.1
  have q4' : si C 401 (r + 13) = nI c := q6.trans e4
  obtain ⟨C', hC'⟩ : ∃ C', C' = ual (uai (uai (uai (ui (ual C (r + 14) c w) 401 (r + 13) (nI (c + 1))) (r + 15) c (nI u)) (r + 16) c (nI a)) (r + 17) c v4) (r + 18) c w2 := ⟨_, rfl⟩
  have l14 := ru.l14
  have l15 := ru.l15
  have l16 := ru.l16
  have l17 := ru.l17
  have l18 := ru.l18
  have e1 : f_X7_addHold F C r w (nI u) (nI a) v4 w2 = some C' := by
    unfold f_X7_addHold f_X5_add
    rw [ru.r611_0, ob_some, q4', lt_eq, if_neg (nI_pos (by omega)), ru.r400_13, ob_some, show r + 13 + 1 = r + 14 by omega, l14, if_neg (nI_ge c10 (by omega)), ob_some, l14, cki_nI c10 (by omega), nI_clamp (by omega)]
    simp only [lt_eq]
    have q4'' : si (ual C (r + 14) c w) 401 (r + 13) = nI c := q4'
    rw [ob_some, q4'', nI_1]
    obtain ⟨C1, hC1⟩ : ∃ C1, C1 = ui (ual C (r + 14) c w) 401 (r + 13) (nI (c + 1)) := ⟨_, rfl⟩
    rw [← hC1]
    have sr1 : sr C1 = sr C := by rw [hC1]; rfl
    have ln1 : ln C1 = ln C := by rw [hC1]; rfl
    rw [sr1, ru.r612_0, ob_some, e_put _ (by rw [ln1, l15]; exact c10) (by rw [ln1, l15]; omega), ob_some, sr_uai, sr1, ru.r613_0, ob_some, e_put _ (by rw [ln_uai, ln1, l16]; exact c10) (by rw [ln_uai, ln1, l16]; omega), ob_some, sr_uai, sr_uai, sr1, ru.r614_0, ob_some, e_put _ (by rw [ln_uai, ln_uai, ln1, l17]; exact c10) (by rw [ln_uai, ln_uai, ln1, l17]; omega), ob_some, if_neg (nI_pos (by omega)), sr_uai, sr_uai, sr_uai, sr1, ru.r615_0, ob_some, ln_uai, ln_uai, ln_uai, ln1, l18, if_neg (nI_ge c10 (by omega)), ob_some]
    dsimp only
    rw [l18, cki_nI c10 (by omega), nI_clamp (by omega), hC', hC1]
  have same : ∀ k, ¬ (r + 13 ≤ k ∧ k ≤ r + 18) → SameO C C' k := fun k a => by rw [hC']; exact (((((SameO.ual _ (by omega)).tr (SameO.ui _ (by omega))).tr (SameO.uai _ (by omega))).tr (SameO.uai _ (by omega))).tr (SameO.uai _ (by omega))).tr (SameO.ual _ (by omega))
  have sr' : sr C' = sr C := by rw [hC']; rfl
  have ln' : ln C' = ln C := by rw [hC']; rfl
  have si' : ∀ g k, ¬ (g = 401 ∧ k = r + 13) → si C' g k = si C g k := fun g k a => by
    rw [hC', si_ual, si_uai, si_uai, si_uai, si_ui, if_neg a]
    rfl
  have d' : ai (uai M 199 6 (D 6 + 1)) 199 = upd D 6 (nI (c + 1)) := by rw [ai_uaiE, hD, e4, nI_1]
  have k4 : kN (upd D 6 (nI (c + 1))) 6 = c + 1 := (isCnt_nI (b := 6) (upd_e _ _ _) (by omega) (by omega)).2
  obtain ⟨n1, n2, n3⟩ := nm_rows hK lets rows
  have dd : D9 M (uai M 199 6 (D 6 + 1)) := D9.uai _
  have al14 : ∀ x, al C' (r + 14) x = if x = c then w else al C (r + 14) x := fun x => by
    rw [hC', al_ual, if_neg (by omega)]
    show al (ual C (r + 14) c w) (r + 14) x = _
    rw [al_ual]
    by_cases y : x = c
    · rw [if_pos ⟨rfl, y⟩, if_pos y]
    · rw [if_neg (fun z => y z.2), if_neg y]
  have al18 : ∀ x, al C' (r + 18) x = if x = c then w2 else al C (r + 18) x := fun x => by
    rw [hC', al_ual]
    by_cases y : x = c
    · rw [if_pos ⟨rfl, y⟩, if_pos y]
    · rw [if_neg (fun z => y z.2), if_neg y]
      show al (ual C (r + 14) c w) (r + 18) x = _
      rw [al_ual, if_neg (by omega)]
  have a15 : ∀ x, ai C' (r + 15) x = if x = c then nI u else ai C (r + 15) x := fun x => by
    rw [hC']
    show ai (uai (uai (uai _ _ _ _) _ _ _) _ _ _) _ _ = _
    rw [ai_uaiN _ (by omega), ai_uaiN _ (by omega), ai_uaiE]
    by_cases y : x = c
    · rw [if_pos y, y, upd_e]
    · rw [if_neg y, upd_n y]; rfl
  have a16 : ∀ x, ai C' (r + 16) x = if x = c then nI a else ai C (r + 16) x := fun x => by
    rw [hC']
    show ai (uai (uai (uai _ _ _ _) _ _ _) _ _ _) _ _ = _
    rw [ai_uaiN _ (by omega), ai_uaiE]
    by_cases y : x = c
    · rw [if_pos y, y, upd_e]
    · rw [if_neg y, upd_n y, ai_uaiN _ (by omega)]; rfl
  have a17 : ∀ x, ai C' (r + 17) x = if x = c then v4 else ai C (r + 17) x := fun x => by
    rw [hC']
    show ai (uai (uai (uai _ _ _ _) _ _ _) _ _ _) _ _ = _
    rw [ai_uaiE]
    by_cases y : x = c
    · rw [if_pos y, y, upd_e]
    · rw [if_neg y, upd_n y, ai_uaiN _ (by omega), ai_uaiN _ (by omega)]; rfl
  refine ⟨C', e1, ?_, fun k a => same k (by omega), sr', ln'⟩
  unfold Sim
  rw [d']
  refine ⟨h1.same (fun i hi => same i (by omega)), ⟨h2.1, ((same 20 (by omega)).1 1).trans h2.2.1, fun i hi => by rw [(same 21 (by omega)).row]; exact h2.2.2 i hi⟩, h3, h4, by rw [sr']; exact h5, by rw [sr']; exact h6, ?_, ⟨⟨fun q hq => by rw [sr']; exact ru.1 q hq, fun q hq => by rw [ln']; exact ru.2 q hq⟩, ?_, fun x hx => ?_, fun x hx => ?_, fun x hx => ?_, fun x hx => ?_⟩, ⟨(d_cnt (by omega)).mpr c3, (d_cnt (by omega)).mpr c4, (d_cnt (by omega)).mpr c5, ?_⟩, ⟨fun x hx => ?_, fun x hx => ?_, fun x hx => ?_, fun x hx => ?_, fun x hx => ?_⟩, h11.d9 dd⟩
  · obtain ⟨t0, t1, t2, t3, t4, t5, t6, t7, t8⟩ := h7
    refine ⟨t0, t1, (si' _ _ (by omega)).trans t2, (si' _ _ (by omega)).trans t3, (si' _ _ (by omega)).trans t4, fun y => ⟨?_, by rw [sr']; exact (t5 y).2⟩, fun y => by rw [sr']; exact t6 y, fun y => (si' _ _ (by omega)).trans (t7 y), fun y => (si' _ _ (by omega)).trans (t8 y)⟩
    rw [hC']
    exact (t5 y).1
  · refine ⟨((si' 600 r (by omega)).trans q0).trans (upd_n (by omega)).symm, ((si' 601 r (by omega)).trans q1).trans (upd_n (by omega)).symm, ((si' 401 (r + 1) (by omega)).trans q3).trans (upd_n (by omega)).symm, ((si' 401 (r + 6) (by omega)).trans q4).trans (upd_n (by omega)).symm, ((si' 401 (r + 10) (by omega)).trans q5).trans (upd_n (by omega)).symm, ?_⟩
    rw [upd_e, hC', si_ual, si_uai, si_uai, si_uai, si_ui, if_pos ⟨rfl, rfl⟩]
  · rw [d_k (by omega)] at hx
    obtain ⟨p1, p2, p3, k, p4, p5, p6, p7⟩ := nc x hx
    rw [upd_n (by omega), upd_n (by omega), upd_n (by omega), (same (r + 3) (by omega)).row, (same (r + 4) (by omega)).row, (same (r + 5) (by omega)).row, (same (r + 2) (by omega)).2.2.2.1]
    exact ⟨p1, p2, p3, k, p4, (d_nm (by omega)).mpr p5, fun i i1 i2 => by rw [upd_n (by omega)]; exact p6 i i1 i2, by rw [d_wd (by omega)]; exact p7⟩
  · rw [d_k (by omega)] at hx
    obtain ⟨p1, k, p4, p5, p6, p7⟩ := nu x hx
    rw [upd_n (by omega), (same (r + 8) (by omega)).row, (same (r + 7) (by omega)).2.2.2.1]
    exact ⟨p1, k, p4, (d_nm (by omega)).mpr p5, fun i i1 i2 => by rw [upd_n (by omega)]; exact p6 i i1 i2, by rw [d_wd (by omega)]; exact p7⟩
  · rw [d_k (by omega)] at hx
    obtain ⟨p1, k, p4, p5, p6, p7⟩ := ng x hx
    rw [upd_n (by omega), (same (r + 12) (by omega)).row, (same (r + 11) (by omega)).2.2.2.1]
    exact ⟨p1, k, p4, (d_nm (by omega)).mpr p5, fun i i1 i2 => by rw [upd_n (by omega)]; exact p6 i i1 i2, by rw [d_wd (by omega)]; exact p7⟩
  · rw [k4] at hx
    rw [a15, a16, a17, al14, al18, upd_n (by omega), upd_n (by omega), upd_n (by omega), d_k (by omega), d_wd (by omega)]
    by_cases y : x = c
    · rw [if_pos y, if_pos y, if_pos y, if_pos y, if_pos y, y]
      refine ⟨hu.1.symm, ha.1.symm, ?_, ?_, K, hK.2, (d_nm (by omega)).mpr n1, fun i i1 i2 => by rw [upd_n (by omega)]; exact n2 i i1 i2, by rw [d_wd (by omega), n3]; exact hw⟩
      · rw [hb.1]; exact h4v
      · rw [(isCnt_nI (b := 10) hk.1 hk.2 (by omega)).2]; exact hw2
    · rw [if_neg y, if_neg y, if_neg y, if_neg y, if_neg y]
      obtain ⟨p1, p2, p3, p8, k, p4, p5, p6, p7⟩ := nh x (by omega)
      exact ⟨p1, p2, p3, p8, k, p4, (d_nm (by omega)).mpr p5, fun i i1 i2 => by rw [upd_n (by omega)]; exact p6 i i1 i2, by rw [d_wd (by omega)]; exact p7⟩
  · exact (isCnt_nI (b := 6) (upd_e _ _ _) (by omega) (by omega)).1
  · rw [d_k (by omega)] at hx
    rw [upd_n (by omega), upd_n (by omega), d_cnt (by omega), d_cnt (by omega), d_cnt (by omega), d_k (by omega), d_k (by omega)]
    exact w1 x hx
  · rw [d_k (by omega)] at hx
    rw [d_cnt (by omega), d_cnt (by omega), d_k (by omega), d_k (by omega), d_k (by omega)]
    exact w2' x hx
  · rw [d_k (by omega)] at hx
    rw [d_cnt (by omega), d_k (by omega)]
    exact w3 x hx
  · rw [k4] at hx
    rw [d_cnt (by omega), d_cnt (by omega), d_cnt (by omega), d_cnt (by omega), d_k (by omega), d_k (by omega), d_k (by omega), upd_n (by omega)]
    by_cases y : x = c
    · rw [y]
      have i1 := isCnt_nI (b := 10) hu.1 (by omega) (by omega)
      have i2 := isCnt_nI (b := 9999) ha.1 ha.2 (by omega)
      have i3 := isCnt_nI (b := 20000) hb.1 hb.2 (by omega)
      have i4 := isCnt_nI (b := 10) hk.1 hk.2 (by omega)
      exact ⟨i1.1, by rw [i1.2]; exact hu.2, i2.1, i3.1, Or.inr hact, i4.1, fun k hk => by rw [upd_n (by omega)]; exact hl k (by rw [i4.2] at hk; exact hk)⟩
    · obtain ⟨p1, p2, p3, p4, p5, p6, p7⟩ := w4 x (by omega)
      exact ⟨p1, p2, p3, p4, p5, p6, fun k hk => by rw [upd_n (by omega)]; exact p7 k hk⟩
  · rw [d_k (by omega)] at hx
    rw [(same (r + 9) (by omega)).row, upd_n (by omega)]
    exact w5 x hx
end Ah
