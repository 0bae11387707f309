theorem th0 (S : St) (v : Int32) : si (ui S 1000 197 v) 1000 197 = v := rfl
theorem Eqv.net {S S' : St} (e : Eqv S S') : ai S' 198 = ai S 198 := e.2.2.1 198 (by decide)
theorem Eqv.bytes {S S' : St} (e : Eqv S S') : ai S' 200 = ai S 200 := e.2.2.1 200 (by decide)
/-- one condition -/
theorem askB {F : Nat} {S : St} {n : Nat} (hR : Rel S n) {fq : Option ((Nat ⊕ Int32) × St)} {H : St → Nat → Option (Int32 × St)} {fm : St → Option (Int32 × St)} (p : Prop) [Decidable p] (v : Int32) (x : Nat) (code : Int32) (S1 : St) (hq : fq = some (if p then .inr v else .inl x, S1)) (e1 : Eqv S S1) (hH : H S1 x = some (code, S1)) (hcode : ¬ code = 0)
    (hm : ∀ S', Rel S' n → Eqv S S' → ∃ r S2, fm S' = some (r, S2) ∧ Eqv S' S2 ∧ al S2 = al S' ∧ si S2 1000 197 = (if ¬ p then code else 0) ∧ (p → r = v)) :
    Ok (Option.bind (Option.bind fq fun z1 => lt z1.2 fun S2 => sm z1.1 (H S2) (fun r3 => cki 0 (ln S2 210) <| lt (ual S2 210 (Int32.toNatClampNeg 0) r3.toInt64) fun S11 => some (0, S11))) fun z2 => lt z2.1 fun r4 => lt z2.2 fun S3 => Option.bind (fm S3) fun z7 => lt z7.1 fun r9 => lt z7.2 fun S8 => Option.bind (f_X11_thrown F S8 197) fun z11 => lt z11.1 fun r13 => lt z11.2 fun S12 =>
      if r13 = r4 then (if ¬ r4 = 0 then (some (S12, n)) else (cki 0 (ln S12 210) <| if (lg_cmp (al S12 210 (Int32.toNatClampNeg 0)) r9.toInt64) = 0 then (some (S12, n)) else (none))) else (none)) := by
  by_cases hp : p
  · refine ask hR (fm := fm) (.inr v) S1 (by rw [hq, if_pos hp]) e1 (fun S' hR' e => ?_)
    obtain ⟨r, S2, h1, h2, h3, h4, h5⟩ := hm S' hR' e
    refine ⟨r, S2, h1, h2, h3, fun x hx => (by cases hx), fun w hw => ?_⟩
    cases hw
    exact ⟨h5 hp, by rw [h4, if_neg (fun z => z hp)]⟩
  · refine ask hR (fm := fm) (.inl x) S1 (by rw [hq, if_neg hp]) e1 (fun S' hR' e => ?_)
    obtain ⟨r, S2, h1, h2, h3, h4, h5⟩ := hm S' hR' e
    refine ⟨r, S2, h1, h2, h3, fun y hy => ?_, fun w hw => by cases hw⟩
    cases hy
    exact ⟨code, hcode, hH, by rw [h4, if_pos hp]⟩
/-- two conditions -/
theorem askC {F : Nat} {S : St} {n : Nat} (hR : Rel S n) {fq : Option ((Nat ⊕ Int32) × St)} {H : St → Nat → Option (Int32 × St)} {fm : St → Option (Int32 × St)} (p q : Prop) [Decidable p] [Decidable q] (v : Int32) (x y : Nat) (S1 : St) (hq : fq = some (if p then (if q then .inr v else .inl y) else .inl x, S1)) (e1 : Eqv S S1) (hH : H S1 x = some (1, S1)) (hH2 : H S1 y = some (2, S1))
    (hm : ∀ S', Rel S' n → Eqv S S' → ∃ r S2, fm S' = some (r, S2) ∧ Eqv S' S2 ∧ al S2 = al S' ∧ si S2 1000 197 = (if ¬ p then 1 else if ¬ q then 2 else 0) ∧ (p → q → r = v)) :
    Ok (Option.bind (Option.bind fq fun z1 => lt z1.2 fun S2 => sm z1.1 (H S2) (fun r3 => cki 0 (ln S2 210) <| lt (ual S2 210 (Int32.toNatClampNeg 0) r3.toInt64) fun S11 => some (0, S11))) fun z2 => lt z2.1 fun r4 => lt z2.2 fun S3 => Option.bind (fm S3) fun z7 => lt z7.1 fun r9 => lt z7.2 fun S8 => Option.bind (f_X11_thrown F S8 197) fun z11 => lt z11.1 fun r13 => lt z11.2 fun S12 =>
      if r13 = r4 then (if ¬ r4 = 0 then (some (S12, n)) else (cki 0 (ln S12 210) <| if (lg_cmp (al S12 210 (Int32.toNatClampNeg 0)) r9.toInt64) = 0 then (some (S12, n)) else (none))) else (none)) := by
  by_cases hp : p
  · by_cases hq' : q
    · refine ask hR (fm := fm) (.inr v) S1 (by rw [hq, if_pos hp, if_pos hq']) e1 (fun S' hR' e => ?_)
      obtain ⟨r, S2, h1, h2, h3, h4, h5⟩ := hm S' hR' e
      refine ⟨r, S2, h1, h2, h3, fun x hx => (by cases hx), fun w hw => ?_⟩
      cases hw
      exact ⟨h5 hp hq', by rw [h4, if_neg (fun z => z hp), if_neg (fun z => z hq')]⟩
    · refine ask hR (fm := fm) (.inl y) S1 (by rw [hq, if_pos hp, if_neg hq']) e1 (fun S' hR' e => ?_)
      obtain ⟨r, S2, h1, h2, h3, h4, h5⟩ := hm S' hR' e
      refine ⟨r, S2, h1, h2, h3, fun z hz => ?_, fun w hw => by cases hw⟩
      cases hz
      exact ⟨2, by decide, hH2, by rw [h4, if_neg (fun z => z hp), if_pos hq']⟩
  · refine ask hR (fm := fm) (.inl x) S1 (by rw [hq, if_neg hp]) e1 (fun S' hR' e => ?_)
    obtain ⟨r, S2, h1, h2, h3, h4, h5⟩ := hm S' hR' e
    refine ⟨r, S2, h1, h2, h3, fun z hz => ?_, fun w hw => by cases hw⟩
    cases hz
    exact ⟨1, by decide, hH, by rw [h4, if_pos hp]⟩
section Q
variable {F : Nat} {xs : Nat → Int32} {L : Nat} {S : St} {n : Nat} {i : Int32}
theorem e_needKind (F : Nat) (S : St) (x : Int32) : f_X10_needKind F S x = some (if 0 ≤ x ∧ x < nI 4 then .inr () else .inl 2, S) := by
  have e := e_needWhat (F := F) (S := S) x 3 (by omega)
  unfold f_X10_needWhat f_X10_needWhat_L9 at e
  unfold f_X10_needKind f_X10_needKind_L9
  exact e
theorem ok_6 (hF : 100000 ≤ F) (h : Rel S n) (hi : ∀ k : Nat, k < 6 → vp_in (i + nI k) L) : Ok (f_law6 F xs L S n 0 197 210 211 i) := by
  have h1 : vp_in (i + 1) L := hi 1 (by omega)
  unfold f_law6 f_L_count
  simp only [cki_t h1]
  generalize xs (Int32.toNatClampNeg (i + 1)) = x
  refine askB h (fm := fun S => f_X11_count F S 197 x) (0 ≤ x ∧ x < nI 4) (ai S 198 (3 + x.toNatClampNeg)) 2 1 S ?_ (Eqv.rf S) rfl (by decide) (fun S' h' e => ?_)
  · obtain ⟨r, q1, q2, q3⟩ := h.ru
    unfold f_X10_count
    rw [e_needKind, ob_some]
    by_cases hc : 0 ≤ x ∧ x < nI 4
    · rw [if_pos hc, if_pos hc]
      simp only [lt_eq, sm_r]
      rw [h.fx.r905_0, ob_some, q1, ob_some]
      obtain ⟨j, hj, rfl⟩ := ix (by omega) hc
      rw [nI_clamp (by omega)]
      unfold f_X7_namesOf
      rcases (show j = 0 ∨ j = 1 ∨ j = 2 ∨ j = 3 by omega) with rfl | rfl | rfl | rfl
      · rw [if_pos (by decide), q3.1.r602_0]; simp only [ob_some, lt_eq]; rw [q3.2.1.2.2.1]
      · rw [if_neg (by decide), if_pos (by decide), q3.1.r606_0]; simp only [ob_some, lt_eq]; rw [q3.2.1.2.2.2.1]
      · rw [if_neg (by decide), if_neg (by decide), if_pos (by decide), q3.1.r609_0]; simp only [ob_some, lt_eq]; rw [q3.2.1.2.2.2.2.1]
      · rw [if_neg (by decide), if_neg (by decide), if_neg (by decide), q3.1.r611_0]; simp only [ob_some, lt_eq]; rw [q3.2.1.2.2.2.2.2]
    · rw [if_neg hc, if_neg hc]
      simp only [lt_eq, sm_l]
  · refine ⟨if 0 ≤ x ∧ x < nI 4 then ai S 198 (3 + x.toNatClampNeg) else 0, _, ?_, eqv_thr S' (if ¬ (0 ≤ x ∧ x < nI 4) then 1 else 0), rfl, th0 _ _, fun hp => if_pos hp⟩
    unfold f_X11_count
    rw [show (3 : Int64) = (nI 3).toInt64 from rfl, e_inK F S' x 3 (by omega), ob_some]
    simp only [lt_eq]
    rw [e_passes, ob_some]
    simp only [lt_eq, eq_bI]
    by_cases hc : 0 ≤ x ∧ x < nI 4
    · rw [if_pos hc, if_pos hc]
      obtain ⟨j, hj, rfl⟩ := ix (by omega) hc
      rw [m_net h'.fx, ob_some, ln_ui, h'.fx.l198, litI 3, nI_add, cki_nI (by omega) (by omega), nI_clamp (by omega), nI_clamp (by omega), ai_ui, e.net]
    · rw [if_neg hc, if_neg hc]
theorem ok_34 (hF : 100000 ≤ F) (h : Rel S n) (hi : ∀ k : Nat, k < 6 → vp_in (i + nI k) L) : Ok (f_law34 F xs L S n 0 197 210 211 i) := by
  have h1 : vp_in (i + 1) L := hi 1 (by omega)
  unfold f_law34 f_L_quota
  simp only [cki_t h1]
  generalize xs (Int32.toNatClampNeg (i + 1)) = x
  have hb := h.n4.2
  refine askB h (fm := fun S => f_X11_quota F S 197 x) (0 ≤ x ∧ x < ai S 198 4) (ai S 198 (84 + 8 * x.toNatClampNeg)) 4 1 S ?_ (Eqv.rf S) rfl (by decide) (fun S' h' e => ?_)
  · unfold f_X10_quota
    rw [e_needUser h, ob_some]
    by_cases hc : 0 ≤ x ∧ x < ai S 198 4
    · rw [if_pos hc, if_pos hc]
      simp only [lt_eq, sm_r]
      rw [h.n4.1] at hc
      obtain ⟨j, hj, rfl⟩ := ix (by omega) hc
      rw [h.fx.r905_0, ob_some, h.fx.sp27.r704_0, ob_some, e_at (by rw [h.fx.sp27.l1]; omega) (by rw [h.fx.sp27.l1]; omega), ob_some, nI_clamp (by omega), h.cl.2.2.2.2.1 j hj]
    · rw [if_neg hc, if_neg hc]
      simp only [lt_eq, sm_l]
  · refine ⟨if 0 ≤ x ∧ x < ai S 198 4 then ai S 198 (84 + 8 * x.toNatClampNeg) else 0, _, ?_, eqv_thr S' (if ¬ (0 ≤ x ∧ x < ai S 198 4) then 1 else 0), rfl, th0 _ _, fun hp => if_pos hp⟩
    unfold f_X11_quota
    rw [e_isUser h', ob_some, e.net]
    simp only [lt_eq]
    rw [e_passes, ob_some]
    simp only [lt_eq, eq_bI]
    by_cases hc : 0 ≤ x ∧ x < ai S 198 4
    · rw [if_pos hc, if_pos hc]
      have hc' := hc
      rw [h.n4.1] at hc'
      obtain ⟨j, hj, rfl⟩ := ix (by omega) hc'
      rw [m_net h'.fx, ob_some, ln_ui, h'.fx.l198, litI 83, litI 8, litI 1, nI_mul, nI_add, nI_add, cki_nI (by omega) (by omega), nI_clamp (by omega), nI_clamp (by omega), ai_ui, e.net, show 83 + 8 * j + 1 = 84 + 8 * j by omega]
    · rw [if_neg hc, if_neg hc]
theorem ok_7 (hF : 100000 ≤ F) (h : Rel S n) (hi : ∀ k : Nat, k < 6 → vp_in (i + nI k) L) : Ok (f_law7 F xs L S n 0 197 210 211 i) := by
  have h1 : vp_in (i + 1) L := hi 1 (by omega)
  unfold f_law7 f_L_members
  simp only [cki_t h1]
  generalize xs (Int32.toNatClampNeg (i + 1)) = x
  have hb := h.n5.2
  refine askB h (fm := fun S => f_X11_members F S 197 x) (0 ≤ x ∧ x < ai S 198 5) (ai S 198 (163 + 7 * x.toNatClampNeg)) 4 1 S ?_ (Eqv.rf S) rfl (by decide) (fun S' h' e => ?_)
  · obtain ⟨r, q1, q2, q3⟩ := h.ru
    unfold f_X10_members
    rw [h.fx.r905_0, ob_some, q1, ob_some, q3.1.r609_0, ob_some, e_has (k := kN (ai S 198) 5) (by rw [q3.2.1.2.2.2.2.1]; exact h.n5.1), ob_some, h.n5.1]
    simp only [lt_eq, ne_bI]
    by_cases hc : 0 ≤ x ∧ x < nI (kN (ai S 198) 5)
    · rw [if_pos hc, if_pos hc]
      obtain ⟨j, hj, rfl⟩ := ix (by omega) hc
      rw [h.fx.r905_0, ob_some, q1, ob_some, q3.1.r610_0, ob_some, e_at (by rw [q3.1.l12]; omega) (by rw [q3.1.l12]; omega), ob_some, nI_clamp (by omega), (q3.2.2.2.2.1 j hj).1]
    · rw [if_neg hc, if_neg hc]
  · refine ⟨if 0 ≤ x ∧ x < ai S 198 5 then ai S 198 (163 + 7 * x.toNatClampNeg) else 0, _, ?_, eqv_thr S' (if ¬ (0 ≤ x ∧ x < ai S 198 5) then 1 else 0), rfl, th0 _ _, fun hp => if_pos hp⟩
    unfold f_X11_members
    rw [h'.fx.r1001_197, ob_some, h'.fx.l198, litI 5, cki_nI (by omega) (by omega), nI_clamp (by omega), e.net, h.n5.1, e_in0 F S' x (by omega), ob_some]
    simp only [lt_eq]
    rw [e_passes, ob_some]
    simp only [lt_eq, eq_bI]
    by_cases hc : 0 ≤ x ∧ x < nI (kN (ai S 198) 5)
    · rw [if_pos hc, if_pos hc]
      obtain ⟨j, hj, rfl⟩ := ix (by omega) hc
      rw [m_net h'.fx, ob_some, ln_ui, h'.fx.l198, litI 163, litI 7, litI 0, nI_mul, nI_add, nI_add, cki_nI (by omega) (by omega), nI_clamp (by omega), nI_clamp (by omega), ai_ui, e.net, Nat.add_zero]
    · rw [if_neg hc, if_neg hc]
end Q
