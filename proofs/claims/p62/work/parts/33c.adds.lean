/-! a user, a class, a hold is added -/
section A_e_addUser
variable {F : Nat} {f : Nat → Int32} {D : PD} {L n r s : Nat} {C : St} {i : Nat} {v : Int32}
theorem e_addUser {w : Int64} {cls q K t : Nat} (h : Sm f L n r D C s) (c10 : kN D 4 < 10) (hc : D (83 + 8 * kN D 4) = nI cls ∧ cls < kN D 3) (hq : D (84 + 8 * kN D 4) = nI q ∧ 1 ≤ q ∧ q ≤ 99999)
    (hK : 1 ≤ K ∧ K ≤ 6) (lets : ∀ k, k < K → letB (f (t + k))) (rows : ∀ x, x < 6 → D (85 + 8 * kN D 4 + x) = if K ≤ x then 0 else f (t + x)) (hw : w = lN (wv (fun k => f (t + k)) K)) :
    ∃ C', f_X7_addUser F C r w (nI cls) (nI q) = some C' ∧ Sm f L n r (upd D 4 (D 4 + 1)) C' s ∧ (∀ k, ¬ (r ≤ k ∧ k ≤ r + 18) → SameO C C' k) ∧ sr C' = sr C ∧ ln C' = ln C := by
  obtain ⟨h1, h2, h3, h4, h5, h6, h7, h8, ⟨c3, c4, c5, c6⟩, ⟨w1, w2, w3, w4, w5⟩⟩ := h
  obtain ⟨ru, ⟨q0, q1, q3, q4, q5, q6⟩, nc, nu, ng, nh⟩ := h8
  have b3 := c3.2
  generalize hcc : kN D 4 = c at *
  have e4 : D 4 = nI c := by rw [← hcc]; exact c4.1
  have q4' : si C 401 (r + 6) = nI c := q4.trans e4
  obtain ⟨C', hC'⟩ : ∃ C', C' = uai (uai (ui (ual C (r + 7) c w) 401 (r + 6) (nI (c + 1))) (r + 8) c (nI cls)) (r + 9) c (nI q) := ⟨_, rfl⟩
  have l7 := ru.l7
  have l8 := ru.l8
  have l9 := ru.l9
  have e1 : f_X7_addUser F C r w (nI cls) (nI q) = some C' := by
    unfold f_X7_addUser f_X5_add
    rw [ru.r606_0, ob_some, q4', lt_eq, if_neg (nI_pos (by omega)), ru.r400_6, ob_some, show r + 6 + 1 = r + 7 by omega, l7, if_neg (nI_ge c10 (by omega)), ob_some, l7, cki_nI c10 (by omega), nI_clamp (by omega)]
    simp only [lt_eq]
    have q4'' : si (ual C (r + 7) c w) 401 (r + 6) = nI c := q4'
    rw [ob_some, q4'', nI_1]
    obtain ⟨C1, hC1⟩ : ∃ C1, C1 = ui (ual C (r + 7) c w) 401 (r + 6) (nI (c + 1)) := ⟨_, rfl⟩
    rw [← hC1]
    have sr1 : sr C1 = sr C := by rw [hC1]; rfl
    have ln1 : ln C1 = ln C := by rw [hC1]; rfl
    rw [sr1, ru.r607_0, ob_some, e_put _ (by rw [ln1, l8]; exact c10) (by rw [ln1, l8]; omega), ob_some, sr_uai, sr1, ru.r608_0, ob_some, e_put _ (by rw [ln_uai, ln1, l9]; exact c10) (by rw [ln_uai, ln1, l9]; omega), ob_some, hC', hC1]
  have same : ∀ k, ¬ k = r + 6 → ¬ k = r + 7 → ¬ k = r + 8 → ¬ k = r + 9 → SameO C C' k := fun k a b d e => by rw [hC']; exact (((SameO.ual _ b).tr (SameO.ui _ a)).tr (SameO.uai _ d)).tr (SameO.uai _ e)
  have sr' : sr C' = sr C := by rw [hC']; rfl
  have ln' : ln C' = ln C := by rw [hC']; rfl
  have si' : ∀ g k, ¬ (g = 401 ∧ k = r + 6) → si C' g k = si C g k := fun g k a => by
    rw [hC', si_uai, si_uai, si_ui, if_neg a]
    rfl
  have d' : upd D 4 (D 4 + 1) = upd D 4 (nI (c + 1)) := by rw [e4, nI_1]
  have k4 : kN (upd D 4 (nI (c + 1))) 4 = c + 1 := (isCnt_nI (b := 10) (upd_e _ _ _) (by omega) (by omega)).2
  obtain ⟨n1, n2, n3⟩ := nm_rows hK lets rows
  have al7 : ∀ u, al C' (r + 7) u = if u = c then w else al C (r + 7) u := fun u => by
    rw [hC']
    show al (ual C (r + 7) c w) (r + 7) u = _
    rw [al_ual]
    by_cases y : u = c
    · rw [if_pos ⟨rfl, y⟩, if_pos y]
    · rw [if_neg (fun z => y z.2), if_neg y]
  have a8 : ∀ u, ai C' (r + 8) u = if u = c then nI cls else ai C (r + 8) u := fun u => by
    rw [hC', ai_uaiN _ (by omega), ai_uaiE]
    by_cases y : u = c
    · rw [if_pos y, y, upd_e]
    · rw [if_neg y, upd_n y]; rfl
  have a9 : ∀ u, ai C' (r + 9) u = if u = c then nI q else ai C (r + 9) u := fun u => by
    rw [hC', ai_uaiE]
    by_cases y : u = c
    · rw [if_pos y, y, upd_e]
    · rw [if_neg y, upd_n y, ai_uaiN _ (by omega)]; rfl
  refine ⟨C', e1, ?_, fun k a => same k (by omega) (by omega) (by omega) (by omega), sr', ln'⟩
  unfold Sm
  rw [d']
  refine ⟨h1.same (fun i hi => same i (by omega) (by omega) (by omega) (by omega)), ⟨h2.1, ((same 20 (by omega) (by omega) (by omega) (by omega)).1 1).trans h2.2.1, fun i hi => by rw [(same 21 (by omega) (by omega) (by omega) (by omega)).row]; exact h2.2.2 i hi⟩, h3, h4, by rw [sr']; exact h5, by rw [sr']; exact h6, ?_, ⟨⟨fun q hq => by rw [sr']; exact ru.1 q hq, fun q hq => by rw [ln']; exact ru.2 q hq⟩, ?_, fun x hx => ?_, fun x hx => ?_, fun x hx => ?_, fun x hx => ?_⟩, ⟨(d_cnt (by omega)).mpr c3, ?_, (d_cnt (by omega)).mpr c5, (d_cnt (by omega)).mpr c6⟩, ⟨fun x hx => ?_, fun x hx => ?_, fun x hx => ?_, fun x hx => ?_, fun x hx => ?_⟩⟩
  · obtain ⟨t0, t1, t2, t3, t4, t5, t6, t7, t8⟩ := h7
    refine ⟨t0, t1, (si' _ _ (by omega)).trans t2, (si' _ _ (by omega)).trans t3, (si' _ _ (by omega)).trans t4, fun y => ⟨?_, by rw [sr']; exact (t5 y).2⟩, fun y => by rw [sr']; exact t6 y, fun y => (si' _ _ (by omega)).trans (t7 y), fun y => (si' _ _ (by omega)).trans (t8 y)⟩
    rw [hC']
    exact (t5 y).1
  · refine ⟨((si' 600 r (by omega)).trans q0).trans (upd_n (by omega)).symm, ((si' 601 r (by omega)).trans q1).trans (upd_n (by omega)).symm, ((si' 401 (r + 1) (by omega)).trans q3).trans (upd_n (by omega)).symm, ?_, ((si' 401 (r + 10) (by omega)).trans q5).trans (upd_n (by omega)).symm, ((si' 401 (r + 13) (by omega)).trans q6).trans (upd_n (by omega)).symm⟩
    rw [upd_e, hC', si_uai, si_uai, si_ui, if_pos ⟨rfl, rfl⟩]
  · rw [d_k (by omega)] at hx
    obtain ⟨p1, p2, p3, k, p4, p5, p6, p7⟩ := nc x hx
    rw [upd_n (by omega), upd_n (by omega), upd_n (by omega), (same (r + 3) (by omega) (by omega) (by omega) (by omega)).row, (same (r + 4) (by omega) (by omega) (by omega) (by omega)).row, (same (r + 5) (by omega) (by omega) (by omega) (by omega)).row, (same (r + 2) (by omega) (by omega) (by omega) (by omega)).2.2.2.1]
    exact ⟨p1, p2, p3, k, p4, (d_nm (by omega)).mpr p5, fun i i1 i2 => by rw [upd_n (by omega)]; exact p6 i i1 i2, by rw [d_wd (by omega)]; exact p7⟩
  · rw [k4] at hx
    rw [a8, al7, upd_n (by omega)]
    by_cases y : x = c
    · rw [if_pos y, if_pos y, y]
      exact ⟨hc.1.symm, K, hK.2, (d_nm (by omega)).mpr n1, fun i i1 i2 => by rw [upd_n (by omega)]; exact n2 i i1 i2, by rw [d_wd (by omega), n3]; exact hw⟩
    · rw [if_neg y, if_neg y]
      obtain ⟨p1, k, p4, p5, p6, p7⟩ := nu x (by omega)
      exact ⟨p1, k, p4, (d_nm (by omega)).mpr p5, fun i i1 i2 => by rw [upd_n (by omega)]; exact p6 i i1 i2, by rw [d_wd (by omega)]; exact p7⟩
  · rw [d_k (by omega)] at hx
    obtain ⟨p1, k, p4, p5, p6, p7⟩ := ng x hx
    rw [upd_n (by omega), (same (r + 12) (by omega) (by omega) (by omega) (by omega)).row, (same (r + 11) (by omega) (by omega) (by omega) (by omega)).2.2.2.1]
    exact ⟨p1, k, p4, (d_nm (by omega)).mpr p5, fun i i1 i2 => by rw [upd_n (by omega)]; exact p6 i i1 i2, by rw [d_wd (by omega)]; exact p7⟩
  · rw [d_k (by omega)] at hx
    obtain ⟨p1, p2, p3, p8, k, p4, p5, p6, p7⟩ := nh x hx
    rw [upd_n (by omega), upd_n (by omega), upd_n (by omega), d_k (by omega), (same (r + 15) (by omega) (by omega) (by omega) (by omega)).row, (same (r + 16) (by omega) (by omega) (by omega) (by omega)).row, (same (r + 17) (by omega) (by omega) (by omega) (by omega)).row, (same (r + 18) (by omega) (by omega) (by omega) (by omega)).2.2.2.1, (same (r + 14) (by omega) (by omega) (by omega) (by omega)).2.2.2.1]
    exact ⟨p1, p2, p3, by rw [d_wd (by omega)]; exact p8, k, p4, (d_nm (by omega)).mpr p5, fun i i1 i2 => by rw [upd_n (by omega)]; exact p6 i i1 i2, by rw [d_wd (by omega)]; exact p7⟩
  · exact (isCnt_nI (b := 10) (upd_e _ _ _) (by omega) (by omega)).1
  · rw [d_k (by omega)] at hx
    rw [upd_n (by omega), upd_n (by omega), d_cnt (by omega), d_cnt (by omega), d_cnt (by omega), d_k (by omega), d_k (by omega)]
    exact w1 x hx
  · rw [k4] at hx
    rw [d_cnt (by omega), d_cnt (by omega), d_k (by omega), d_k (by omega), d_k (by omega)]
    by_cases y : x = c
    · rw [y]
      have i1 := isCnt_nI (b := 8) hc.1 (by omega) (by omega)
      have i2 := isCnt_nI (b := 99999) hq.1 (by omega) (by omega)
      exact ⟨i1.1, by rw [i1.2]; exact hc.2, i2.1, by rw [i2.2]; exact hq.2.1⟩
    · exact w2 x (by omega)
  · rw [d_k (by omega)] at hx
    rw [d_cnt (by omega), d_k (by omega)]
    exact w3 x hx
  · rw [d_k (by omega)] at hx
    obtain ⟨p1, p2, p3, p4, p5, p6, p7⟩ := w4 x hx
    rw [d_cnt (by omega), d_cnt (by omega), d_cnt (by omega), d_cnt (by omega), k4, d_k (by omega), d_k (by omega), upd_n (by omega)]
    exact ⟨p1, by omega, p3, p4, p5, p6, fun k hk => by rw [upd_n (by omega)]; exact p7 k hk⟩
  · rw [k4] at hx
    rw [a9, upd_n (by omega)]
    by_cases y : x = c
    · rw [if_pos y, y]; exact hq.1.symm
    · rw [if_neg y]; exact w5 x (by omega)
end A_e_addUser
section A_e_addClass
variable {F : Nat} {f : Nat → Int32} {D : PD} {L n r s : Nat} {C : St}
theorem e_addClass {w : Int64} {v0 v1 v2 : Int32} {K t : Nat} (h : Sm f L n r D C s) (c10 : kN D 3 < 8) (hv : D (11 + 9 * kN D 3) = v0 ∧ D (12 + 9 * kN D 3) = v1 ∧ D (13 + 9 * kN D 3) = v2) (hb : (v0 = -1 ∨ ∃ k, v0 = nI k ∧ 1 ≤ k ∧ k ≤ 999) ∧ (∃ k, v1 = nI k ∧ k ≤ 99) ∧ (v2 = -1 ∨ ∃ k, v2 = nI k ∧ k < kN D 3))
    (hK : 1 ≤ K ∧ K ≤ 6) (lets : ∀ k, k < K → letB (f (t + k))) (rows : ∀ x, x < 6 → D (14 + 9 * kN D 3 + x) = if K ≤ x then 0 else f (t + x)) (hw : w = lN (wv (fun k => f (t + k)) K)) :
    ∃ C', f_X7_addClass F C r w v0 v1 v2 = some C' ∧ Sm f L n r (upd D 3 (D 3 + 1)) C' s ∧ (∀ k, ¬ (r ≤ k ∧ k ≤ r + 18) → SameO C C' k) ∧ sr C' = sr C ∧ ln C' = ln C := by
  obtain ⟨h1, h2, h3, h4, h5, h6, h7, h8, ⟨c3, c4, c5, c6⟩, ⟨w1, w2, w3, w4, w5⟩⟩ := h
  obtain ⟨ru, ⟨q0, q1, q3, q4, q5, q6⟩, nc, nu, ng, nh⟩ := h8
  have b4 := c4.2
  generalize hcc : kN D 3 = c at *
  have e4 : D 3 = nI c := by rw [← hcc]; exact c3.1
  have q4' : si C 401 (r + 1) = nI c := q3.trans e4
  obtain ⟨C', hC'⟩ : ∃ C', C' = uai (uai (uai (ui (ual C (r + 2) c w) 401 (r + 1) (nI (c + 1))) (r + 3) c v0) (r + 4) c v1) (r + 5) c v2 := ⟨_, rfl⟩
  have l7 := ru.l2
  have l8 := ru.l3
  have l9 := ru.l4
  have l5 := ru.l5
  have e1 : f_X7_addClass F C r w v0 v1 v2 = some C' := by
    unfold f_X7_addClass f_X5_add
    rw [ru.r602_0, ob_some, q4', lt_eq, if_neg (nI_pos (by omega)), ru.r400_1, ob_some, show r + 1 + 1 = r + 2 by omega, l7, if_neg (nI_ge c10 (by omega)), ob_some, l7, cki_nI c10 (by omega), nI_clamp (by omega)]
    simp only [lt_eq]
    have q4'' : si (ual C (r + 2) c w) 401 (r + 1) = nI c := q4'
    rw [ob_some, q4'', nI_1]
    obtain ⟨C1, hC1⟩ : ∃ C1, C1 = ui (ual C (r + 2) c w) 401 (r + 1) (nI (c + 1)) := ⟨_, rfl⟩
    rw [← hC1]
    have sr1 : sr C1 = sr C := by rw [hC1]; rfl
    have ln1 : ln C1 = ln C := by rw [hC1]; rfl
    rw [sr1, ru.r603_0, ob_some, e_put _ (by rw [ln1, l8]; exact c10) (by rw [ln1, l8]; omega), ob_some, sr_uai, sr1, ru.r604_0, ob_some, e_put _ (by rw [ln_uai, ln1, l9]; exact c10) (by rw [ln_uai, ln1, l9]; omega), ob_some, sr_uai, sr_uai, sr1, ru.r605_0, ob_some, e_put _ (by rw [ln_uai, ln_uai, ln1, l5]; exact c10) (by rw [ln_uai, ln_uai, ln1, l5]; omega), ob_some, hC', hC1]
  have same : ∀ k, ¬ (r + 1 ≤ k ∧ k ≤ r + 5) → SameO C C' k := fun k a => by rw [hC']; exact ((((SameO.ual _ (by omega)).tr (SameO.ui _ (by omega))).tr (SameO.uai _ (by omega))).tr (SameO.uai _ (by omega))).tr (SameO.uai _ (by omega))
  have sr' : sr C' = sr C := by rw [hC']; rfl
  have ln' : ln C' = ln C := by rw [hC']; rfl
  have si' : ∀ g k, ¬ (g = 401 ∧ k = r + 1) → si C' g k = si C g k := fun g k a => by
    rw [hC', si_uai, si_uai, si_uai, si_ui, if_neg a]
    rfl
  have d' : upd D 3 (D 3 + 1) = upd D 3 (nI (c + 1)) := by rw [e4, nI_1]
  have k4 : kN (upd D 3 (nI (c + 1))) 3 = c + 1 := (isCnt_nI (b := 8) (upd_e _ _ _) (by omega) (by omega)).2
  obtain ⟨n1, n2, n3⟩ := nm_rows hK lets rows
  have al7 : ∀ u, al C' (r + 2) u = if u = c then w else al C (r + 2) u := fun u => by
    rw [hC']
    show al (ual C (r + 2) c w) (r + 2) u = _
    rw [al_ual]
    by_cases y : u = c
    · rw [if_pos ⟨rfl, y⟩, if_pos y]
    · rw [if_neg (fun z => y z.2), if_neg y]
  have a3 : ∀ u, ai C' (r + 3) u = if u = c then v0 else ai C (r + 3) u := fun u => by
    rw [hC', ai_uaiN _ (by omega), ai_uaiN _ (by omega), ai_uaiE]
    by_cases y : u = c
    · rw [if_pos y, y, upd_e]
    · rw [if_neg y, upd_n y]; rfl
  have a4 : ∀ u, ai C' (r + 4) u = if u = c then v1 else ai C (r + 4) u := fun u => by
    rw [hC', ai_uaiN _ (by omega), ai_uaiE]
    by_cases y : u = c
    · rw [if_pos y, y, upd_e]
    · rw [if_neg y, upd_n y, ai_uaiN _ (by omega)]; rfl
  have a5 : ∀ u, ai C' (r + 5) u = if u = c then v2 else ai C (r + 5) u := fun u => by
    rw [hC', ai_uaiE]
    by_cases y : u = c
    · rw [if_pos y, y, upd_e]
    · rw [if_neg y, upd_n y, ai_uaiN _ (by omega), ai_uaiN _ (by omega)]; rfl
  refine ⟨C', e1, ?_, fun k a => same k (by omega), sr', ln'⟩
  unfold Sm
  rw [d']
  refine ⟨h1.same (fun i hi => same i (by omega)), ⟨h2.1, ((same 20 (by omega)).1 1).trans h2.2.1, fun i hi => by rw [(same 21 (by omega)).row]; exact h2.2.2 i hi⟩, h3, h4, by rw [sr']; exact h5, by rw [sr']; exact h6, ?_, ⟨⟨fun q hq => by rw [sr']; exact ru.1 q hq, fun q hq => by rw [ln']; exact ru.2 q hq⟩, ?_, fun x hx => ?_, fun x hx => ?_, fun x hx => ?_, fun x hx => ?_⟩, ⟨?_, (d_cnt (by omega)).mpr c4, (d_cnt (by omega)).mpr c5, (d_cnt (by omega)).mpr c6⟩, ⟨fun x hx => ?_, fun x hx => ?_, fun x hx => ?_, fun x hx => ?_, fun x hx => ?_⟩⟩
  · obtain ⟨t0, t1, t2, t3, t4, t5, t6, t7, t8⟩ := h7
    refine ⟨t0, t1, (si' _ _ (by omega)).trans t2, (si' _ _ (by omega)).trans t3, (si' _ _ (by omega)).trans t4, fun y => ⟨?_, by rw [sr']; exact (t5 y).2⟩, fun y => by rw [sr']; exact t6 y, fun y => (si' _ _ (by omega)).trans (t7 y), fun y => (si' _ _ (by omega)).trans (t8 y)⟩
    rw [hC']
    exact (t5 y).1
  · refine ⟨((si' 600 r (by omega)).trans q0).trans (upd_n (by omega)).symm, ((si' 601 r (by omega)).trans q1).trans (upd_n (by omega)).symm, ?_, ((si' 401 (r + 6) (by omega)).trans q4).trans (upd_n (by omega)).symm, ((si' 401 (r + 10) (by omega)).trans q5).trans (upd_n (by omega)).symm, ((si' 401 (r + 13) (by omega)).trans q6).trans (upd_n (by omega)).symm⟩
    rw [upd_e, hC', si_uai, si_uai, si_uai, si_ui, if_pos ⟨rfl, rfl⟩]
  · rw [k4] at hx
    rw [a3, a4, a5, al7, upd_n (by omega), upd_n (by omega), upd_n (by omega)]
    by_cases y : x = c
    · rw [if_pos y, if_pos y, if_pos y, if_pos y, y]
      exact ⟨hv.1.symm, hv.2.1.symm, hv.2.2.symm, K, hK.2, (d_nm (by omega)).mpr n1, fun i i1 i2 => by rw [upd_n (by omega)]; exact n2 i i1 i2, by rw [d_wd (by omega), n3]; exact hw⟩
    · rw [if_neg y, if_neg y, if_neg y, if_neg y]
      obtain ⟨p1, p2, p3, k, p4, p5, p6, p7⟩ := nc x (by omega)
      exact ⟨p1, p2, p3, k, p4, (d_nm (by omega)).mpr p5, fun i i1 i2 => by rw [upd_n (by omega)]; exact p6 i i1 i2, by rw [d_wd (by omega)]; exact p7⟩
  · rw [d_k (by omega)] at hx
    obtain ⟨p1, k, p4, p5, p6, p7⟩ := nu x hx
    rw [upd_n (by omega), (same (r + 8) (by omega)).row, (same (r + 7) (by omega)).2.2.2.1]
    exact ⟨p1, k, p4, (d_nm (by omega)).mpr p5, fun i i1 i2 => by rw [upd_n (by omega)]; exact p6 i i1 i2, by rw [d_wd (by omega)]; exact p7⟩
  · rw [d_k (by omega)] at hx
    obtain ⟨p1, k, p4, p5, p6, p7⟩ := ng x hx
    rw [upd_n (by omega), (same (r + 12) (by omega)).row, (same (r + 11) (by omega)).2.2.2.1]
    exact ⟨p1, k, p4, (d_nm (by omega)).mpr p5, fun i i1 i2 => by rw [upd_n (by omega)]; exact p6 i i1 i2, by rw [d_wd (by omega)]; exact p7⟩
  · rw [d_k (by omega)] at hx
    obtain ⟨p1, p2, p3, p8, k, p4, p5, p6, p7⟩ := nh x hx
    rw [upd_n (by omega), upd_n (by omega), upd_n (by omega), d_k (by omega), (same (r + 15) (by omega)).row, (same (r + 16) (by omega)).row, (same (r + 17) (by omega)).row, (same (r + 18) (by omega)).2.2.2.1, (same (r + 14) (by omega)).2.2.2.1]
    exact ⟨p1, p2, p3, by rw [d_wd (by omega)]; exact p8, k, p4, (d_nm (by omega)).mpr p5, fun i i1 i2 => by rw [upd_n (by omega)]; exact p6 i i1 i2, by rw [d_wd (by omega)]; exact p7⟩
  · exact (isCnt_nI (b := 8) (upd_e _ _ _) (by omega) (by omega)).1
  · rw [k4] at hx
    rw [upd_n (by omega), upd_n (by omega), d_cnt (by omega), d_cnt (by omega), d_cnt (by omega), d_k (by omega), d_k (by omega)]
    by_cases y : x = c
    · rw [y, hv.1, hv.2.2]
      obtain ⟨m0, ⟨k1, m1, m1'⟩, m2⟩ := hb
      refine ⟨m0.imp id (fun ⟨k, z1, z2, z3⟩ => ?_), (isCnt_nI (hv.2.1.trans m1) m1' (by omega)).1, m2.imp id (fun ⟨k, z1, z2⟩ => ?_)⟩
      · have := isCnt_nI (b := 999) (hv.1.trans z1) z3 (by omega)
        exact ⟨this.1, by rw [this.2]; exact z2⟩
      · have := isCnt_nI (b := 8) (hv.2.2.trans z1) (by omega) (by omega)
        exact ⟨this.1, by rw [this.2]; exact z2⟩
    · exact w1 x (by omega)
  · rw [d_k (by omega)] at hx
    obtain ⟨p1, p2, p3, p4⟩ := w2 x hx
    rw [d_cnt (by omega), d_cnt (by omega), d_k (by omega), k4, d_k (by omega)]
    exact ⟨p1, by omega, p3, p4⟩
  · rw [d_k (by omega)] at hx
    rw [d_cnt (by omega), d_k (by omega)]
    exact w3 x hx
  · rw [d_k (by omega)] at hx
    obtain ⟨p1, p2, p3, p4, p5, p6, p7⟩ := w4 x hx
    rw [d_cnt (by omega), d_cnt (by omega), d_cnt (by omega), d_cnt (by omega), d_k (by omega), d_k (by omega), d_k (by omega), upd_n (by omega)]
    exact ⟨p1, p2, p3, p4, p5, p6, fun k hk => by rw [upd_n (by omega)]; exact p7 k hk⟩
  · rw [d_k (by omega)] at hx
    rw [(same (r + 9) (by omega)).row, upd_n (by omega)]
    exact w5 x hx
end A_e_addClass
section A_e_addHold
variable {F : Nat} {f : Nat → Int32} {D : PD} {L n r s : Nat} {C : St}
theorem e_addHold {w w2 : Int64} {u a b k : Nat} {v4 : Int32} {K t : Nat} (h : Sm f L n r D C s) (c10 : kN D 6 < 6) (hu : D (205 + 21 * kN D 6) = nI u ∧ u < kN D 4)
    (ha : D (206 + 21 * kN D 6) = nI a ∧ a ≤ 9999) (hb : D (207 + 21 * kN D 6) = nI b ∧ b ≤ 20000) (h4v : v4 = nI b ∨ (v4 = 1000000000 ∧ nI b = 20000)) (hact : D (208 + 21 * kN D 6) = 1)
    (hk : D (209 + 21 * kN D 6) = nI k ∧ k ≤ 10) (hl : ∀ x, x < k → letB (D (210 + 21 * kN D 6 + x))) (hw2 : w2 = wdN D (210 + 21 * kN D 6) k)
    (hK : 1 ≤ K ∧ K ≤ 6) (lets : ∀ k, k < K → letB (f (t + k))) (rows : ∀ x, x < 6 → D (220 + 21 * kN D 6 + x) = if K ≤ x then 0 else f (t + x)) (hw : w = lN (wv (fun k => f (t + k)) K)) :
    ∃ C', f_X7_addHold F C r w (nI u) (nI a) v4 w2 = some C' ∧ Sm f L n r (upd D 6 (D 6 + 1)) C' s ∧ (∀ k, ¬ (r ≤ k ∧ k ≤ r + 18) → SameO C C' k) ∧ sr C' = sr C ∧ ln C' = ln C := by
  obtain ⟨h1, h2, h3, h4, h5, h6, h7, h8, ⟨c3, c4, c5, c6⟩, ⟨w1, w2', w3, w4, w5⟩⟩ := h
  obtain ⟨ru, ⟨q0, q1, q3, q4, q5, q6⟩, nc, nu, ng, nh⟩ := h8
  have b3 := c3.2
  have b4 := c4.2
  generalize hcc : kN D 6 = c at *
  have e4 : D 6 = nI c := by rw [← hcc]; exact c6.1
  have q4' : si C 401 (r + 13) = nI c := q6.trans e4
  obtain ⟨C', hC'⟩ : ∃ C', C' = ual (uai (uai (uai (ui (ual C (r + 14) c w) 401 (r + 13) (nI (c + 1))) (r + 15) c (nI u)) (r + 16) c (nI a)) (r + 17) c v4) (r + 18) c w2 := ⟨_, rfl⟩
  have l14 := ru.l14
  have l15 := ru.l15
  have l16 := ru.l16
  have l17 := ru.l17
  have l18 := ru.l18
  have e1 : f_X7_addHold F C r w (nI u) (nI a) v4 w2 = some C' := by
    unfold f_X7_addHold f_X5_add
    rw [ru.r611_0, ob_some, q4', lt_eq, if_neg (nI_pos (by omega)), ru.r400_13, ob_some, show r + 13 + 1 = r + 14 by omega, l14, if_neg (nI_ge c10 (by omega)), ob_some, l14, cki_nI c10 (by omega), nI_clamp (by omega)]
    simp only [lt_eq]
    have q4'' : si (ual C (r + 14) c w) 401 (r + 13) = nI c := q4'
    rw [ob_some, q4'', nI_1]
    obtain ⟨C1, hC1⟩ : ∃ C1, C1 = ui (ual C (r + 14) c w) 401 (r + 13) (nI (c + 1)) := ⟨_, rfl⟩
    rw [← hC1]
    have sr1 : sr C1 = sr C := by rw [hC1]; rfl
    have ln1 : ln C1 = ln C := by rw [hC1]; rfl
    rw [sr1, ru.r612_0, ob_some, e_put _ (by rw [ln1, l15]; exact c10) (by rw [ln1, l15]; omega), ob_some, sr_uai, sr1, ru.r613_0, ob_some, e_put _ (by rw [ln_uai, ln1, l16]; exact c10) (by rw [ln_uai, ln1, l16]; omega), ob_some, sr_uai, sr_uai, sr1, ru.r614_0, ob_some, e_put _ (by rw [ln_uai, ln_uai, ln1, l17]; exact c10) (by rw [ln_uai, ln_uai, ln1, l17]; omega), ob_some, if_neg (nI_pos (by omega)), sr_uai, sr_uai, sr_uai, sr1, ru.r615_0, ob_some, ln_uai, ln_uai, ln_uai, ln1, l18, if_neg (nI_ge c10 (by omega)), ob_some]
    dsimp only
    rw [l18, cki_nI c10 (by omega), nI_clamp (by omega), hC', hC1]
  have same : ∀ k, ¬ (r + 13 ≤ k ∧ k ≤ r + 18) → SameO C C' k := fun k a => by rw [hC']; exact (((((SameO.ual _ (by omega)).tr (SameO.ui _ (by omega))).tr (SameO.uai _ (by omega))).tr (SameO.uai _ (by omega))).tr (SameO.uai _ (by omega))).tr (SameO.ual _ (by omega))
  have sr' : sr C' = sr C := by rw [hC']; rfl
  have ln' : ln C' = ln C := by rw [hC']; rfl
  have si' : ∀ g k, ¬ (g = 401 ∧ k = r + 13) → si C' g k = si C g k := fun g k a => by
    rw [hC', si_ual, si_uai, si_uai, si_uai, si_ui, if_neg a]
    rfl
  have d' : upd D 6 (D 6 + 1) = upd D 6 (nI (c + 1)) := by rw [e4, nI_1]
  have k4 : kN (upd D 6 (nI (c + 1))) 6 = c + 1 := (isCnt_nI (b := 6) (upd_e _ _ _) (by omega) (by omega)).2
  obtain ⟨n1, n2, n3⟩ := nm_rows hK lets rows
  have al14 : ∀ x, al C' (r + 14) x = if x = c then w else al C (r + 14) x := fun x => by
    rw [hC', al_ual, if_neg (by omega)]
    show al (ual C (r + 14) c w) (r + 14) x = _
    rw [al_ual]
    by_cases y : x = c
    · rw [if_pos ⟨rfl, y⟩, if_pos y]
    · rw [if_neg (fun z => y z.2), if_neg y]
  have al18 : ∀ x, al C' (r + 18) x = if x = c then w2 else al C (r + 18) x := fun x => by
    rw [hC', al_ual]
    by_cases y : x = c
    · rw [if_pos ⟨rfl, y⟩, if_pos y]
    · rw [if_neg (fun z => y z.2), if_neg y]
      show al (ual C (r + 14) c w) (r + 18) x = _
      rw [al_ual, if_neg (by omega)]
  have a15 : ∀ x, ai C' (r + 15) x = if x = c then nI u else ai C (r + 15) x := fun x => by
    rw [hC']
    show ai (uai (uai (uai _ _ _ _) _ _ _) _ _ _) _ _ = _
    rw [ai_uaiN _ (by omega), ai_uaiN _ (by omega), ai_uaiE]
    by_cases y : x = c
    · rw [if_pos y, y, upd_e]
    · rw [if_neg y, upd_n y]; rfl
  have a16 : ∀ x, ai C' (r + 16) x = if x = c then nI a else ai C (r + 16) x := fun x => by
    rw [hC']
    show ai (uai (uai (uai _ _ _ _) _ _ _) _ _ _) _ _ = _
    rw [ai_uaiN _ (by omega), ai_uaiE]
    by_cases y : x = c
    · rw [if_pos y, y, upd_e]
    · rw [if_neg y, upd_n y, ai_uaiN _ (by omega)]; rfl
  have a17 : ∀ x, ai C' (r + 17) x = if x = c then v4 else ai C (r + 17) x := fun x => by
    rw [hC']
    show ai (uai (uai (uai _ _ _ _) _ _ _) _ _ _) _ _ = _
    rw [ai_uaiE]
    by_cases y : x = c
    · rw [if_pos y, y, upd_e]
    · rw [if_neg y, upd_n y, ai_uaiN _ (by omega), ai_uaiN _ (by omega)]; rfl
  refine ⟨C', e1, ?_, fun k a => same k (by omega), sr', ln'⟩
  unfold Sm
  rw [d']
  refine ⟨h1.same (fun i hi => same i (by omega)), ⟨h2.1, ((same 20 (by omega)).1 1).trans h2.2.1, fun i hi => by rw [(same 21 (by omega)).row]; exact h2.2.2 i hi⟩, h3, h4, by rw [sr']; exact h5, by rw [sr']; exact h6, ?_, ⟨⟨fun q hq => by rw [sr']; exact ru.1 q hq, fun q hq => by rw [ln']; exact ru.2 q hq⟩, ?_, fun x hx => ?_, fun x hx => ?_, fun x hx => ?_, fun x hx => ?_⟩, ⟨(d_cnt (by omega)).mpr c3, (d_cnt (by omega)).mpr c4, (d_cnt (by omega)).mpr c5, ?_⟩, ⟨fun x hx => ?_, fun x hx => ?_, fun x hx => ?_, fun x hx => ?_, fun x hx => ?_⟩⟩
  · obtain ⟨t0, t1, t2, t3, t4, t5, t6, t7, t8⟩ := h7
    refine ⟨t0, t1, (si' _ _ (by omega)).trans t2, (si' _ _ (by omega)).trans t3, (si' _ _ (by omega)).trans t4, fun y => ⟨?_, by rw [sr']; exact (t5 y).2⟩, fun y => by rw [sr']; exact t6 y, fun y => (si' _ _ (by omega)).trans (t7 y), fun y => (si' _ _ (by omega)).trans (t8 y)⟩
    rw [hC']
    exact (t5 y).1
  · refine ⟨((si' 600 r (by omega)).trans q0).trans (upd_n (by omega)).symm, ((si' 601 r (by omega)).trans q1).trans (upd_n (by omega)).symm, ((si' 401 (r + 1) (by omega)).trans q3).trans (upd_n (by omega)).symm, ((si' 401 (r + 6) (by omega)).trans q4).trans (upd_n (by omega)).symm, ((si' 401 (r + 10) (by omega)).trans q5).trans (upd_n (by omega)).symm, ?_⟩
    rw [upd_e, hC', si_ual, si_uai, si_uai, si_uai, si_ui, if_pos ⟨rfl, rfl⟩]
  · rw [d_k (by omega)] at hx
    obtain ⟨p1, p2, p3, k, p4, p5, p6, p7⟩ := nc x hx
    rw [upd_n (by omega), upd_n (by omega), upd_n (by omega), (same (r + 3) (by omega)).row, (same (r + 4) (by omega)).row, (same (r + 5) (by omega)).row, (same (r + 2) (by omega)).2.2.2.1]
    exact ⟨p1, p2, p3, k, p4, (d_nm (by omega)).mpr p5, fun i i1 i2 => by rw [upd_n (by omega)]; exact p6 i i1 i2, by rw [d_wd (by omega)]; exact p7⟩
  · rw [d_k (by omega)] at hx
    obtain ⟨p1, k, p4, p5, p6, p7⟩ := nu x hx
    rw [upd_n (by omega), (same (r + 8) (by omega)).row, (same (r + 7) (by omega)).2.2.2.1]
    exact ⟨p1, k, p4, (d_nm (by omega)).mpr p5, fun i i1 i2 => by rw [upd_n (by omega)]; exact p6 i i1 i2, by rw [d_wd (by omega)]; exact p7⟩
  · rw [d_k (by omega)] at hx
    obtain ⟨p1, k, p4, p5, p6, p7⟩ := ng x hx
    rw [upd_n (by omega), (same (r + 12) (by omega)).row, (same (r + 11) (by omega)).2.2.2.1]
    exact ⟨p1, k, p4, (d_nm (by omega)).mpr p5, fun i i1 i2 => by rw [upd_n (by omega)]; exact p6 i i1 i2, by rw [d_wd (by omega)]; exact p7⟩
  · rw [k4] at hx
    rw [a15, a16, a17, al14, al18, upd_n (by omega), upd_n (by omega), upd_n (by omega), d_k (by omega), d_wd (by omega)]
    by_cases y : x = c
    · rw [if_pos y, if_pos y, if_pos y, if_pos y, if_pos y, y]
      refine ⟨hu.1.symm, ha.1.symm, ?_, ?_, K, hK.2, (d_nm (by omega)).mpr n1, fun i i1 i2 => by rw [upd_n (by omega)]; exact n2 i i1 i2, by rw [d_wd (by omega), n3]; exact hw⟩
      · rw [hb.1]; exact h4v
      · rw [(isCnt_nI (b := 10) hk.1 hk.2 (by omega)).2]; exact hw2
    · rw [if_neg y, if_neg y, if_neg y, if_neg y, if_neg y]
      obtain ⟨p1, p2, p3, p8, k, p4, p5, p6, p7⟩ := nh x (by omega)
      exact ⟨p1, p2, p3, p8, k, p4, (d_nm (by omega)).mpr p5, fun i i1 i2 => by rw [upd_n (by omega)]; exact p6 i i1 i2, by rw [d_wd (by omega)]; exact p7⟩
  · exact (isCnt_nI (b := 6) (upd_e _ _ _) (by omega) (by omega)).1
  · rw [d_k (by omega)] at hx
    rw [upd_n (by omega), upd_n (by omega), d_cnt (by omega), d_cnt (by omega), d_cnt (by omega), d_k (by omega), d_k (by omega)]
    exact w1 x hx
  · rw [d_k (by omega)] at hx
    rw [d_cnt (by omega), d_cnt (by omega), d_k (by omega), d_k (by omega), d_k (by omega)]
    exact w2' x hx
  · rw [d_k (by omega)] at hx
    rw [d_cnt (by omega), d_k (by omega)]
    exact w3 x hx
  · rw [k4] at hx
    rw [d_cnt (by omega), d_cnt (by omega), d_cnt (by omega), d_cnt (by omega), d_k (by omega), d_k (by omega), d_k (by omega), upd_n (by omega)]
    by_cases y : x = c
    · rw [y]
      have i1 := isCnt_nI (b := 10) hu.1 (by omega) (by omega)
      have i2 := isCnt_nI (b := 9999) ha.1 ha.2 (by omega)
      have i3 := isCnt_nI (b := 20000) hb.1 hb.2 (by omega)
      have i4 := isCnt_nI (b := 10) hk.1 hk.2 (by omega)
      exact ⟨i1.1, by rw [i1.2]; exact hu.2, i2.1, i3.1, Or.inr hact, i4.1, fun k hk => by rw [upd_n (by omega)]; exact hl k (by rw [i4.2] at hk; exact hk)⟩
    · obtain ⟨p1, p2, p3, p4, p5, p6, p7⟩ := w4 x (by omega)
      exact ⟨p1, p2, p3, p4, p5, p6, fun k hk => by rw [upd_n (by omega)]; exact p7 k hk⟩
  · rw [d_k (by omega)] at hx
    rw [(same (r + 9) (by omega)).row, upd_n (by omega)]
    exact w5 x hx
end A_e_addHold
