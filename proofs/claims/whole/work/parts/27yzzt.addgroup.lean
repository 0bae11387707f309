/-! a group is added: both sides -/
section Ag
variable {F : Nat} {f D : Nat → Int32} {L n r s : Nat} {C M : St}
theorem e_addGroup {w : Int64} {q K t : Nat} (h : Sim f L n r C M s) (c10 : kN (ai M 199) 5 < 6) (hq : ai M 199 (163 + 7 * kN (ai M 199) 5) = nI q ∧ 1 ≤ q ∧ q ≤ 1023)
    (hK : 1 ≤ K ∧ K ≤ 6) (lets : ∀ k, k < K → letB (f (t + k))) (rows : ∀ x, x < 6 → ai M 199 (164 + 7 * kN (ai M 199) 5 + x) = if K ≤ x then 0 else f (t + x)) (hw : w = lN (wv (fun k => f (t + k)) K)) :
    ∃ C', f_X7_addGroup F C r w (nI q) = some C' ∧ Sim f L n r C' (uai M 199 5 (ai M 199 5 + 1)) s ∧ (∀ k, ¬ (r ≤ k ∧ k ≤ r + 18) → SameO C C' k) ∧ sr C' = sr C ∧ ln C' = ln C := by
  obtain ⟨h1, h2, h3, h4, h5, h6, h7, h8, ⟨c3, c4, c5, c6⟩, ⟨w1, w2, w3, w4, w5⟩, h11⟩ := h
  obtain ⟨ru, ⟨q0, q1, q3, q4, q5, q6⟩, nc, nu, ng, nh⟩ := h8
  generalize hD : ai M 199 = D at *
  generalize hcc : kN D 5 = c at *
  have e4 : D 5 = nI c := by rw [← hcc]; exact c5.1
  have q4' : si C 401 (r + 10) = nI c := q5.trans e4
  obtain ⟨C', hC'⟩ : ∃ C', C' = uai (ui (ual C (r + 11) c w) 401 (r + 10) (nI (c + 1))) (r + 12) c (nI q) := ⟨_, rfl⟩
  have l7 := ru.l11
  have l8 := ru.l12
  have e1 : f_X7_addGroup F C r w (nI q) = some C' := by
    unfold f_X7_addGroup f_X5_add
    rw [ru.r610_0, ob_some, ru.r609_0, ob_some, q4', lt_eq, if_neg (nI_pos (by omega)), ru.r400_10, ob_some, show r + 10 + 1 = r + 11 by omega, l7, if_neg (nI_ge c10 (by omega)), ob_some, l7, cki_nI c10 (by omega), nI_clamp (by omega)]
    simp only [lt_eq]
    have q4'' : si (ual C (r + 11) c w) 401 (r + 10) = nI c := q4'
    rw [ob_some, q4'', nI_1]
    obtain ⟨C1, hC1⟩ : ∃ C1, C1 = ui (ual C (r + 11) c w) 401 (r + 10) (nI (c + 1)) := ⟨_, rfl⟩
    rw [← hC1]
    have sr1 : sr C1 = sr C := by rw [hC1]; rfl
    have ln1 : ln C1 = ln C := by rw [hC1]; rfl
    rw [e_put _ (by rw [ln1, l8]; exact c10) (by rw [ln1, l8]; omega), ob_some, hC', hC1]
  have same : ∀ k, ¬ (r + 10 ≤ k ∧ k ≤ r + 12) → SameO C C' k := fun k a => by rw [hC']; exact ((SameO.ual _ (by omega)).tr (SameO.ui _ (by omega))).tr (SameO.uai _ (by omega))
  have sr' : sr C' = sr C := by rw [hC']; rfl
  have ln' : ln C' = ln C := by rw [hC']; rfl
  have si' : ∀ g k, ¬ (g = 401 ∧ k = r + 10) → si C' g k = si C g k := fun g k a => by
    rw [hC', si_uai, si_ui, if_neg a]
    rfl
  have d' : ai (uai M 199 5 (D 5 + 1)) 199 = upd D 5 (nI (c + 1)) := by rw [ai_uaiE, hD, e4, nI_1]
  have k4 : kN (upd D 5 (nI (c + 1))) 5 = c + 1 := (isCnt_nI (b := 6) (upd_e _ _ _) (by omega) (by omega)).2
  obtain ⟨n1, n2, n3⟩ := nm_rows hK lets rows
  have dd : D9 M (uai M 199 5 (D 5 + 1)) := D9.uai _
  have al7 : ∀ u, al C' (r + 11) u = if u = c then w else al C (r + 11) u := fun u => by
    rw [hC']
    show al (ual C (r + 11) c w) (r + 11) u = _
    rw [al_ual]
    by_cases y : u = c
    · rw [if_pos ⟨rfl, y⟩, if_pos y]
    · rw [if_neg (fun z => y z.2), if_neg y]
  have a12 : ∀ u, ai C' (r + 12) u = if u = c then nI q else ai C (r + 12) u := fun u => by
    rw [hC', ai_uaiE]
    by_cases y : u = c
    · rw [if_pos y, y, upd_e]
    · rw [if_neg y, upd_n y]; rfl
  refine ⟨C', e1, ?_, fun k a => same k (by omega), sr', ln'⟩
  unfold Sim
  rw [d']
  refine ⟨h1.same (fun i hi => same i (by omega)), ⟨h2.1, ((same 20 (by omega)).1 1).trans h2.2.1, fun i hi => by rw [(same 21 (by omega)).row]; exact h2.2.2 i hi⟩, h3, h4, by rw [sr']; exact h5, by rw [sr']; exact h6, ?_, ⟨⟨fun q hq => by rw [sr']; exact ru.1 q hq, fun q hq => by rw [ln']; exact ru.2 q hq⟩, ?_, fun x hx => ?_, fun x hx => ?_, fun x hx => ?_, fun x hx => ?_⟩, ⟨(d_cnt (by omega)).mpr c3, (d_cnt (by omega)).mpr c4, ?_, (d_cnt (by omega)).mpr c6⟩, ⟨fun x hx => ?_, fun x hx => ?_, fun x hx => ?_, fun x hx => ?_, fun x hx => ?_⟩, h11.d9 dd⟩
  · obtain ⟨t0, t1, t2, t3, t4, t5, t6, t7, t8⟩ := h7
    refine ⟨t0, t1, (si' _ _ (by omega)).trans t2, (si' _ _ (by omega)).trans t3, (si' _ _ (by omega)).trans t4, fun y => ⟨?_, by rw [sr']; exact (t5 y).2⟩, fun y => by rw [sr']; exact t6 y, fun y => (si' _ _ (by omega)).trans (t7 y), fun y => (si' _ _ (by omega)).trans (t8 y)⟩
    rw [hC']
    exact (t5 y).1
  · refine ⟨((si' 600 r (by omega)).trans q0).trans (upd_n (by omega)).symm, ((si' 601 r (by omega)).trans q1).trans (upd_n (by omega)).symm, ((si' 401 (r + 1) (by omega)).trans q3).trans (upd_n (by omega)).symm, ((si' 401 (r + 6) (by omega)).trans q4).trans (upd_n (by omega)).symm, ?_, ((si' 401 (r + 13) (by omega)).trans q6).trans (upd_n (by omega)).symm⟩
    rw [upd_e, hC', si_uai, si_ui, if_pos ⟨rfl, rfl⟩]
  · rw [d_k (by omega)] at hx
    obtain ⟨p1, p2, p3, k, p4, p5, p6, p7⟩ := nc x hx
    rw [upd_n (by omega), upd_n (by omega), upd_n (by omega), (same (r + 3) (by omega)).row, (same (r + 4) (by omega)).row, (same (r + 5) (by omega)).row, (same (r + 2) (by omega)).2.2.2.1]
    exact ⟨p1, p2, p3, k, p4, (d_nm (by omega)).mpr p5, fun i i1 i2 => by rw [upd_n (by omega)]; exact p6 i i1 i2, by rw [d_wd (by omega)]; exact p7⟩
  · rw [d_k (by omega)] at hx
    obtain ⟨p1, k, p4, p5, p6, p7⟩ := nu x hx
    rw [upd_n (by omega), (same (r + 8) (by omega)).row, (same (r + 7) (by omega)).2.2.2.1]
    exact ⟨p1, k, p4, (d_nm (by omega)).mpr p5, fun i i1 i2 => by rw [upd_n (by omega)]; exact p6 i i1 i2, by rw [d_wd (by omega)]; exact p7⟩
  · rw [k4] at hx
    rw [a12, al7, upd_n (by omega)]
    by_cases y : x = c
    · rw [if_pos y, if_pos y, y]
      exact ⟨hq.1.symm, K, hK.2, (d_nm (by omega)).mpr n1, fun i i1 i2 => by rw [upd_n (by omega)]; exact n2 i i1 i2, by rw [d_wd (by omega), n3]; exact hw⟩
    · rw [if_neg y, if_neg y]
      obtain ⟨p1, k, p4, p5, p6, p7⟩ := ng x (by omega)
      exact ⟨p1, k, p4, (d_nm (by omega)).mpr p5, fun i i1 i2 => by rw [upd_n (by omega)]; exact p6 i i1 i2, by rw [d_wd (by omega)]; exact p7⟩
  · rw [d_k (by omega)] at hx
    obtain ⟨p1, p2, p3, p8, k, p4, p5, p6, p7⟩ := nh x hx
    rw [upd_n (by omega), upd_n (by omega), upd_n (by omega), d_k (by omega), (same (r + 15) (by omega)).row, (same (r + 16) (by omega)).row, (same (r + 17) (by omega)).row, (same (r + 18) (by omega)).2.2.2.1, (same (r + 14) (by omega)).2.2.2.1]
    exact ⟨p1, p2, p3, by rw [d_wd (by omega)]; exact p8, k, p4, (d_nm (by omega)).mpr p5, fun i i1 i2 => by rw [upd_n (by omega)]; exact p6 i i1 i2, by rw [d_wd (by omega)]; exact p7⟩
  · exact (isCnt_nI (b := 6) (upd_e _ _ _) (by omega) (by omega)).1
  · rw [d_k (by omega)] at hx
    rw [upd_n (by omega), upd_n (by omega), d_cnt (by omega), d_cnt (by omega), d_cnt (by omega), d_k (by omega), d_k (by omega)]
    exact w1 x hx
  · rw [d_k (by omega)] at hx
    rw [d_cnt (by omega), d_cnt (by omega), d_k (by omega), d_k (by omega), d_k (by omega)]
    exact w2 x hx
  · rw [k4] at hx
    rw [d_cnt (by omega), d_k (by omega)]
    by_cases y : x = c
    · rw [y]
      have i1 := isCnt_nI (b := 1023) hq.1 hq.2.2 (by omega)
      exact ⟨i1.1, by rw [i1.2]; exact hq.2.1⟩
    · exact w3 x (by omega)
  · rw [d_k (by omega)] at hx
    obtain ⟨p1, p2, p3, p4, p5, p6, p7⟩ := w4 x hx
    rw [d_cnt (by omega), d_cnt (by omega), d_cnt (by omega), d_cnt (by omega), d_k (by omega), d_k (by omega), d_k (by omega), upd_n (by omega)]
    exact ⟨p1, p2, p3, p4, p5, p6, fun k hk => by rw [upd_n (by omega)]; exact p7 k hk⟩
  · rw [d_k (by omega)] at hx
    rw [(same (r + 9) (by omega)).row, upd_n (by omega)]
    exact w5 x hx
end Ag
