/-! calls that ask, II -/
/-- one condition, and an answer true or false -/
theorem askZ {F : Nat} {S : St} {n : Nat} (hR : Rel S n) {fq : Option ((Nat ⊕ Int32) × St)} {H : St → Nat → Option (Int32 × St)} {fm : St → Option (Int32 × St)} (p b : Prop) [Decidable p] [Decidable b] (x : Nat) (code : Int32) (hq : fq = some (if p then .inr (bI b) else .inl x, S)) (hH : H S x = some (code, S)) (hcode : ¬ code = 0)
    (hm : ∀ S', Rel S' n → Eqv S S' → ∃ r S2, fm S' = some (r, S2) ∧ Eqv S' S2 ∧ al S2 = al S' ∧ si S2 1000 197 = (if ¬ p then code else 0) ∧ (p → r = bI b)) :
    Ok (Option.bind (Option.bind fq fun z5 => lt z5.2 fun S6 => sm z5.1 (H S6) (fun r7 => if r7 = 0 then (cki 0 (ln S6 210) <| lt (ual S6 210 (Int32.toNatClampNeg 0) 0) fun S2 => some (0, S2)) else (cki 0 (ln S6 210) <| lt (ual S6 210 (Int32.toNatClampNeg 0) 1) fun S2 => some (0, S2)))) fun z2 => lt z2.1 fun r4 => lt z2.2 fun S3 => Option.bind (fm S3) fun z7 => lt z7.1 fun r9 => lt z7.2 fun S8 => Option.bind (f_X11_thrown F S8 197) fun z11 => lt z11.1 fun r13 => lt z11.2 fun S12 =>
      if r13 = r4 then (if ¬ r4 = 0 then (some (S12, n)) else (cki 0 (ln S12 210) <| if r9 = 0 then (if (lg_cmp (al S12 210 (Int32.toNatClampNeg 0)) 0) = 0 then (some (S12, n)) else (none)) else (if (lg_cmp (al S12 210 (Int32.toNatClampNeg 0)) 1) = 0 then (some (S12, n)) else (none)))) else (none)) := by
  subst hq
  by_cases hp : p
  · by_cases hb : b
    · have e2 := eqv_out S 0 1
      obtain ⟨r, S2, h1, h2, h3, h4, h5⟩ := hm (ual S 210 0 1) (hR.eqv e2) e2
      have hl : ln S2 210 = 1 := ((hR.eqv e2).eqv h2).fx.l210
      rw [if_pos hp, bI_t hb]
      simp only [ob_some, lt_eq, sm_r]
      rw [if_neg (by decide), hR.fx.l210, cki_0 (by omega) (by omega), ob_some]
      simp only []
      rw [show Int32.toNatClampNeg 0 = 0 from rfl, h1, ob_some]
      simp only [e_thrown, ob_some, h4, if_neg (fun z : ¬ p => z hp), if_true]
      have h6 : al S2 210 0 = 1 := by rw [h3, al_ual, if_pos ⟨rfl, rfl⟩]
      rw [if_neg (by simp), hl, cki_0 (by omega) (by omega), h5 hp, bI_t hb, if_neg (by decide), h6, c0, if_pos rfl]
      exact ⟨S2, n, rfl, (hR.eqv e2).eqv h2⟩
    · have e2 := eqv_out S 0 0
      obtain ⟨r, S2, h1, h2, h3, h4, h5⟩ := hm (ual S 210 0 0) (hR.eqv e2) e2
      have hl : ln S2 210 = 1 := ((hR.eqv e2).eqv h2).fx.l210
      rw [if_pos hp, bI_f hb]
      simp only [ob_some, lt_eq, sm_r]
      rw [if_pos trivial, hR.fx.l210, cki_0 (by omega) (by omega), ob_some]
      simp only []
      rw [show Int32.toNatClampNeg 0 = 0 from rfl, h1, ob_some]
      simp only [e_thrown, ob_some, h4, if_neg (fun z : ¬ p => z hp), if_true]
      have h6 : al S2 210 0 = 0 := by rw [h3, al_ual, if_pos ⟨rfl, rfl⟩]
      rw [if_neg (by simp), hl, cki_0 (by omega) (by omega), h5 hp, bI_f hb, if_pos rfl, h6, c0, if_pos rfl]
      exact ⟨S2, n, rfl, (hR.eqv e2).eqv h2⟩
  · obtain ⟨r, S2, h1, h2, h3, h4, h5⟩ := hm S hR (Eqv.rf S)
    rw [if_neg hp]
    simp only [ob_some, lt_eq, sm_l, hH]
    rw [h1, ob_some]
    simp only [e_thrown, ob_some, h4, if_pos hp, if_true]
    rw [if_pos hcode]
    exact ⟨S2, n, rfl, hR.eqv h2⟩
/-- one condition, and a long answer -/
theorem askW {F : Nat} {S : St} {n : Nat} (hR : Rel S n) {fq : Option ((Nat ⊕ Int64) × St)} {H : St → Nat → Option (Int32 × St)} {fm : St → Option (Int64 × St)} (p : Prop) [Decidable p] (v : Int64) (x : Nat) (code : Int32) (hq : fq = some (if p then .inr v else .inl x, S)) (hH : H S x = some (code, S)) (hcode : ¬ code = 0)
    (hm : ∀ S', Rel S' n → Eqv S S' → ∃ r S2, fm S' = some (r, S2) ∧ Eqv S' S2 ∧ al S2 = al S' ∧ si S2 1000 197 = (if ¬ p then code else 0) ∧ (p → r = v)) :
    Ok (Option.bind (Option.bind fq fun z1 => lt z1.2 fun S2 => sm z1.1 (H S2) (fun r3 => cki 0 (ln S2 210) <| lt (ual S2 210 (Int32.toNatClampNeg 0) r3) fun S11 => some (0, S11))) fun z2 => lt z2.1 fun r4 => lt z2.2 fun S3 => Option.bind (fm S3) fun z7 => lt z7.1 fun r9 => lt z7.2 fun S8 => Option.bind (f_X11_thrown F S8 197) fun z11 => lt z11.1 fun r13 => lt z11.2 fun S12 =>
      if r13 = r4 then (if ¬ r4 = 0 then (some (S12, n)) else (cki 0 (ln S12 210) <| if (lg_cmp (al S12 210 (Int32.toNatClampNeg 0)) r9) = 0 then (some (S12, n)) else (none))) else (none)) := by
  subst hq
  by_cases hp : p
  · have e2 := eqv_out S 0 v
    obtain ⟨r, S2, h1, h2, h3, h4, h5⟩ := hm (ual S 210 0 v) (hR.eqv e2) e2
    have hl : ln S2 210 = 1 := ((hR.eqv e2).eqv h2).fx.l210
    rw [if_pos hp]
    simp only [ob_some, lt_eq, sm_r]
    rw [hR.fx.l210, cki_0 (by omega) (by omega), ob_some]
    simp only []
    rw [show Int32.toNatClampNeg 0 = 0 from rfl, h1, ob_some]
    simp only [e_thrown, ob_some, h4, if_neg (fun z : ¬ p => z hp), if_true]
    have h6 : al S2 210 0 = v := by rw [h3, al_ual, if_pos ⟨rfl, rfl⟩]
    rw [if_neg (by simp), hl, cki_0 (by omega) (by omega), h5 hp, h6, c0, if_pos rfl]
    exact ⟨S2, n, rfl, (hR.eqv e2).eqv h2⟩
  · obtain ⟨r, S2, h1, h2, h3, h4, h5⟩ := hm S hR (Eqv.rf S)
    rw [if_neg hp]
    simp only [ob_some, lt_eq, sm_l, hH]
    rw [h1, ob_some]
    simp only [e_thrown, ob_some, h4, if_pos hp, if_true]
    rw [if_pos hcode]
    exact ⟨S2, n, rfl, hR.eqv h2⟩
theorem e_byteAt (F : Nat) {S : St} {j r L k : Nat} (h0 : sr S 0 j = some r) (h1 : si S 1 j = nI L) (hL : L ≤ ln S r) (hb : ln S r < 2 ^ 31) (hk : k < L) : f_X0_byteAt F S j (nI k) = some (ai S r k &&& 255, S) := by
  unfold f_X0_byteAt
  rw [if_neg (nI_pos (by omega)), h1, if_neg (nI_ge hk (by omega)), h0, ob_some, if_neg (nI_ge (by omega) hb), ob_some, cki_nI (by omega) hb, nI_clamp (by omega)]
theorem i32_max {e d t l : Int32} (q : e + d < t ↔ 0 < t - e - d) : (if e + d < t then t else e + d) + l - d = e + (if 0 < t - e - d then t - e - d else 0) + l := by
  by_cases c : e + d < t
  · rw [if_pos c, if_pos (q.mp c)]
    grind
  · rw [if_neg c, if_neg (fun z => c (q.mpr z))]
    grind
theorem max_q {e d t : Nat} (he : e ≤ 22000) (hd : d ≤ 999) (ht : t ≤ 22001) : (nI e + nI d < nI t ↔ 0 < nI t - nI e - nI d) := by
  rw [nI_add, nI_ltI (by omega) (by omega), Int32.lt_iff_toInt_lt, Int32.toInt_sub, Int32.toInt_sub, nI_toInt (by omega), nI_toInt (by omega), nI_toInt (by omega), Int.bmod_def, Int.bmod_def]
  show _ ↔ (0 : Int) < _
  split <;> split <;> omega
section A
variable {F : Nat} {xs : Nat → Int32} {L : Nat} {S : St} {n : Nat} {i : Int32}
theorem what3 {y : Int32} (h : 0 ≤ y ∧ y < nI 3) : y = 0 ∨ y = 1 ∨ y = 2 := by
  obtain ⟨j, hj, rfl⟩ := ix (by omega) h
  rcases (show j = 0 ∨ j = 1 ∨ j = 2 by omega) with rfl | rfl | rfl
  · exact Or.inl rfl
  · exact Or.inr (Or.inl rfl)
  · exact Or.inr (Or.inr rfl)
theorem ok_8 (hF : 100000 ≤ F) (h : Rel S n) (hi : ∀ k : Nat, k < 6 → vp_in (i + nI k) L) : Ok (f_law8 F xs L S n 0 197 210 211 i) := by
  have h1 : vp_in (i + 1) L := hi 1 (by omega)
  have h2 : vp_in (i + 2) L := hi 2 (by omega)
  unfold f_law8 f_L_retention
  simp only [cki_t h1, cki_t h2]
  generalize xs (Int32.toNatClampNeg (i + 1)) = x
  generalize xs (Int32.toNatClampNeg (i + 2)) = y
  refine askC h (fm := fun S => f_X11_retention F S 197 x y) (0 ≤ x ∧ x < ai S 198 3) (0 ≤ y ∧ y < nI 3) (ai S 198 (11 + 9 * x.toNatClampNeg + y.toNatClampNeg)) 4 2 S ?_ (Eqv.rf S) rfl rfl (fun S' h' e => ?_)
  · obtain ⟨r, q1, q2, q3⟩ := h.ru
    unfold f_X10_retention
    rw [e_needClass h, ob_some]
    by_cases hc : 0 ≤ x ∧ x < ai S 198 3
    · obtain ⟨c, hm, hm2, rfl⟩ := ixC h hc
      rw [if_pos hc, if_pos hc, show (2 : Int32) = nI 2 from rfl, lt_eq, sm_r, e_needWhat y 2 (by omega), ob_some, lt_eq]
      by_cases hd : 0 ≤ y ∧ y < nI 3
      · rw [if_pos hd, if_pos hd, sm_r]
        have g := q3.2.2.1 c hm
        have l3 := q3.1.l3
        have l4 := q3.1.l4
        have l5 := q3.1.l5
        have a3 : f_X10_at F S (r + 3) (nI c) = some (ai S 198 (11 + 9 * c), S) := by rw [e_at (by omega) (by omega), g.1]
        have a4 : f_X10_at F S (r + 4) (nI c) = some (ai S 198 (12 + 9 * c), S) := by rw [e_at (by omega) (by omega), g.2.1]
        have a5 : f_X10_at F S (r + 5) (nI c) = some (ai S 198 (13 + 9 * c), S) := by rw [e_at (by omega) (by omega), g.2.2.1]
        rcases what3 hd with rfl | rfl | rfl
        · rw [if_neg (fun z => z rfl)]
          simp (disch := first | assumption | omega) only [ob_some, lt_eq, sm_l, sm_r, os_s, os_n, cki_nI, cki_0, cki_1, ck_bI, nI_clamp, cl0, cl1, nI_add, nI_mul, nI_1, nI_a0, nI_0a, nI_1a, nI_1m, aL2, La2, mL2, cL2, kL2, aL3, La3, mL3, cL3, kL3, aL4, La4, mL4, cL4, kL4, aL5, La5, mL5, cL5, kL5, aL6, La6, mL6, cL6, kL6, aL7, La7, mL7, cL7, kL7, aL8, La8, mL8, cL8, kL8, aL9, La9, mL9, cL9, kL9, aL10, La10, mL10, cL10, kL10, aL11, La11, mL11, cL11, kL11, aL12, La12, mL12, cL12, kL12, aL13, La13, mL13, cL13, kL13, aL14, La14, mL14, cL14, kL14, aL15, La15, mL15, cL15, kL15, aL16, La16, mL16, cL16, kL16, aL20, La20, mL20, cL20, kL20, aL21, La21, mL21, cL21, kL21, aL24, La24, mL24, cL24, kL24, aL27, La27, mL27, cL27, kL27, aL30, La30, mL30, cL30, kL30, aL31, La31, mL31, cL31, kL31, aL32, La32, mL32, cL32, kL32, aL48, La48, mL48, cL48, kL48, aL60, La60, mL60, cL60, kL60, aL83, La83, mL83, cL83, kL83, aL97, La97, mL97, cL97, kL97, aL99, La99, mL99, cL99, kL99, aL120, La120, mL120, cL120, kL120, aL122, La122, mL122, cL122, kL122, aL124, La124, mL124, cL124, kL124, aL163, La163, mL163, cL163, kL163, aL177, La177, mL177, cL177, kL177, aL200, La200, mL200, cL200, kL200, aL205, La205, mL205, cL205, kL205, aL255, La255, mL255, cL255, kL255, aL331, La331, mL331, cL331, kL331, aL480, La480, mL480, cL480, kL480, aL999, La999, mL999, cL999, kL999, aL1171, La1171, mL1171, cL1171, kL1171, aL1200, La1200, mL1200, cL1200, kL1200, aL2000, La2000, mL2000, cL2000, kL2000, aL4771, La4771, mL4771, cL4771, kL4771, aL6211, La6211, mL6211, cL6211, kL6211, aL6214, La6214, mL6214, cL6214, kL6214, aL6391, La6391, mL6391, cL6391, kL6391, aL8000, La8000, mL8000, cL8000, kL8000, aL9999, La9999, mL9999, cL9999, kL9999, aL20000, La20000, mL20000, cL20000, kL20000, aL96000, La96000, mL96000, cL96000, kL96000, nI_leI, nI_ltI, ne_bI, eq_bI, h.fx.r905_0, q1, q3.1.r603_0, a3]
          rfl
        · rw [if_pos (by decide), if_neg (fun z => z rfl)]
          simp (disch := first | assumption | omega) only [ob_some, lt_eq, sm_l, sm_r, os_s, os_n, cki_nI, cki_0, cki_1, ck_bI, nI_clamp, cl0, cl1, nI_add, nI_mul, nI_1, nI_a0, nI_0a, nI_1a, nI_1m, aL2, La2, mL2, cL2, kL2, aL3, La3, mL3, cL3, kL3, aL4, La4, mL4, cL4, kL4, aL5, La5, mL5, cL5, kL5, aL6, La6, mL6, cL6, kL6, aL7, La7, mL7, cL7, kL7, aL8, La8, mL8, cL8, kL8, aL9, La9, mL9, cL9, kL9, aL10, La10, mL10, cL10, kL10, aL11, La11, mL11, cL11, kL11, aL12, La12, mL12, cL12, kL12, aL13, La13, mL13, cL13, kL13, aL14, La14, mL14, cL14, kL14, aL15, La15, mL15, cL15, kL15, aL16, La16, mL16, cL16, kL16, aL20, La20, mL20, cL20, kL20, aL21, La21, mL21, cL21, kL21, aL24, La24, mL24, cL24, kL24, aL27, La27, mL27, cL27, kL27, aL30, La30, mL30, cL30, kL30, aL31, La31, mL31, cL31, kL31, aL32, La32, mL32, cL32, kL32, aL48, La48, mL48, cL48, kL48, aL60, La60, mL60, cL60, kL60, aL83, La83, mL83, cL83, kL83, aL97, La97, mL97, cL97, kL97, aL99, La99, mL99, cL99, kL99, aL120, La120, mL120, cL120, kL120, aL122, La122, mL122, cL122, kL122, aL124, La124, mL124, cL124, kL124, aL163, La163, mL163, cL163, kL163, aL177, La177, mL177, cL177, kL177, aL200, La200, mL200, cL200, kL200, aL205, La205, mL205, cL205, kL205, aL255, La255, mL255, cL255, kL255, aL331, La331, mL331, cL331, kL331, aL480, La480, mL480, cL480, kL480, aL999, La999, mL999, cL999, kL999, aL1171, La1171, mL1171, cL1171, kL1171, aL1200, La1200, mL1200, cL1200, kL1200, aL2000, La2000, mL2000, cL2000, kL2000, aL4771, La4771, mL4771, cL4771, kL4771, aL6211, La6211, mL6211, cL6211, kL6211, aL6214, La6214, mL6214, cL6214, kL6214, aL6391, La6391, mL6391, cL6391, kL6391, aL8000, La8000, mL8000, cL8000, kL8000, aL9999, La9999, mL9999, cL9999, kL9999, aL20000, La20000, mL20000, cL20000, kL20000, aL96000, La96000, mL96000, cL96000, kL96000, nI_leI, nI_ltI, ne_bI, eq_bI, h.fx.r905_0, q1, q3.1.r604_0, a4]
          rw [show 11 + 9 * c + 1 = 12 + 9 * c by omega]
        · rw [if_pos (by decide), if_pos (by decide)]
          simp (disch := first | assumption | omega) only [ob_some, lt_eq, sm_l, sm_r, os_s, os_n, cki_nI, cki_0, cki_1, ck_bI, nI_clamp, cl0, cl1, nI_add, nI_mul, nI_1, nI_a0, nI_0a, nI_1a, nI_1m, aL2, La2, mL2, cL2, kL2, aL3, La3, mL3, cL3, kL3, aL4, La4, mL4, cL4, kL4, aL5, La5, mL5, cL5, kL5, aL6, La6, mL6, cL6, kL6, aL7, La7, mL7, cL7, kL7, aL8, La8, mL8, cL8, kL8, aL9, La9, mL9, cL9, kL9, aL10, La10, mL10, cL10, kL10, aL11, La11, mL11, cL11, kL11, aL12, La12, mL12, cL12, kL12, aL13, La13, mL13, cL13, kL13, aL14, La14, mL14, cL14, kL14, aL15, La15, mL15, cL15, kL15, aL16, La16, mL16, cL16, kL16, aL20, La20, mL20, cL20, kL20, aL21, La21, mL21, cL21, kL21, aL24, La24, mL24, cL24, kL24, aL27, La27, mL27, cL27, kL27, aL30, La30, mL30, cL30, kL30, aL31, La31, mL31, cL31, kL31, aL32, La32, mL32, cL32, kL32, aL48, La48, mL48, cL48, kL48, aL60, La60, mL60, cL60, kL60, aL83, La83, mL83, cL83, kL83, aL97, La97, mL97, cL97, kL97, aL99, La99, mL99, cL99, kL99, aL120, La120, mL120, cL120, kL120, aL122, La122, mL122, cL122, kL122, aL124, La124, mL124, cL124, kL124, aL163, La163, mL163, cL163, kL163, aL177, La177, mL177, cL177, kL177, aL200, La200, mL200, cL200, kL200, aL205, La205, mL205, cL205, kL205, aL255, La255, mL255, cL255, kL255, aL331, La331, mL331, cL331, kL331, aL480, La480, mL480, cL480, kL480, aL999, La999, mL999, cL999, kL999, aL1171, La1171, mL1171, cL1171, kL1171, aL1200, La1200, mL1200, cL1200, kL1200, aL2000, La2000, mL2000, cL2000, kL2000, aL4771, La4771, mL4771, cL4771, kL4771, aL6211, La6211, mL6211, cL6211, kL6211, aL6214, La6214, mL6214, cL6214, kL6214, aL6391, La6391, mL6391, cL6391, kL6391, aL8000, La8000, mL8000, cL8000, kL8000, aL9999, La9999, mL9999, cL9999, kL9999, aL20000, La20000, mL20000, cL20000, kL20000, aL96000, La96000, mL96000, cL96000, kL96000, nI_leI, nI_ltI, ne_bI, eq_bI, h.fx.r905_0, q1, q3.1.r605_0, a5]
          rw [show 11 + 9 * c + 2 = 13 + 9 * c by omega]
      · rw [if_neg hd, if_neg hd]
        rfl
    · rw [if_neg hc, if_neg hc]
      rfl
  · refine mdl2 (F := F) h' (0 ≤ x ∧ x < ai S 198 3) (0 ≤ y ∧ y < nI 3) _ (chk := f_X11_isClass F S' 197 x) (chk2 := fun S2 => f_X11_in F S2 y.toInt64 0 2) (body := fun T => Option.bind (f_X11_classValue F T 197 x y) fun z14 => lt z14.1 fun r16 => lt z14.2 fun S15 => some (r16, S15)) rfl (by rw [e_isClass h', e.net]) (e_inK F S' y 2 (by omega)) (fun hc hd T ht hx w => noW ?_)
    obtain ⟨m, hm, hm2, rfl⟩ := ixC h hc
    obtain ⟨k, hk, rfl⟩ := ix (by omega) hd
    rw [e_cls hx (by omega), nI_clamp (by omega), nI_clamp (by omega), ht, e.net]
    rfl
theorem ok_14 (hF : 100000 ≤ F) (h : Rel S n) (hi : ∀ k : Nat, k < 6 → vp_in (i + nI k) L) : Ok (f_law14 F xs L S n 0 197 210 211 i) := by
  have h1 : vp_in (i + 1) L := hi 1 (by omega)
  have h2 : vp_in (i + 2) L := hi 2 (by omega)
  unfold f_law14 f_L_message
  simp only [cki_t h1, cki_t h2]
  generalize xs (Int32.toNatClampNeg (i + 1)) = x
  generalize xs (Int32.toNatClampNeg (i + 2)) = y
  refine askC h (fm := fun S => f_X11_message F S 197 x y) (0 ≤ x ∧ x < ai S 198 7) (0 ≤ y ∧ y < nI 5) (if y = nI 3 then nI (szN (ai S 198) x.toNatClampNeg) else if y = nI 4 then pI (keptN (ai S 198) x.toNatClampNeg) else ai S 198 (331 + 7 * x.toNatClampNeg + y.toNatClampNeg)) 4 2 S ?_ (Eqv.rf S) rfl rfl (fun S' h' e => ?_)
  · unfold f_X10_message
    rw [e_needMessage h, ob_some]
    by_cases hc : 0 ≤ x ∧ x < ai S 198 7
    · obtain ⟨m, hm, hm2, rfl⟩ := ixM h hc
      rw [if_pos hc, if_pos hc, show (4 : Int32) = nI 4 from rfl, lt_eq, sm_r, e_needWhat y 4 (by omega), ob_some, lt_eq]
      by_cases hd : 0 ≤ y ∧ y < nI 5
      · rw [if_pos hd, if_pos hd, sm_r, h.fx.r905_0, ob_some]
        obtain ⟨j, j1, j2⟩ := e_msgAt (F := F) h.c0 h.fx.sp27 hm
        obtain ⟨j', k1, k2, k3, k4, k5, k6, k7, -⟩ := h.c0.cm m hm
        rw [j1] at k1
        cases k1
        have k7' : si S 302 j = nI (szN (ai S 198) m) := k7
        have km : nI (manyN (ai S 198) m) = ai S 198 (333 + 7 * m) := (h.w.wM m hm).2.2.2.1.1.symm
        rw [j2, ob_some, nI_clamp (by omega)]
        simp only [lt_eq, ob_some]
        obtain ⟨k, hk, rfl⟩ := ix (by omega) hd
        rw [nI_clamp (by omega)]
        rcases (show k = 0 ∨ k = 1 ∨ k = 2 ∨ k = 3 ∨ k = 4 by omega) with rfl | rfl | rfl | rfl | rfl
        · rw [if_pos (by decide), if_neg (by decide), if_neg (by decide), k5, Nat.add_zero]
        · rw [if_neg (by decide), if_pos (by decide), if_neg (by decide), if_neg (by decide), k6, show 331 + 7 * m + 1 = 332 + 7 * m by omega]
        · rw [if_neg (by decide), if_neg (by decide), if_pos (by decide), if_neg (by decide), if_neg (by decide), k3, ob_some, k4, km, show 331 + 7 * m + 2 = 333 + 7 * m by omega]
        · rw [if_neg (by decide), if_neg (by decide), if_neg (by decide), if_pos (by decide), if_pos rfl, k7']
        · rw [if_neg (by decide), if_neg (by decide), if_neg (by decide), if_neg (by decide), if_neg (by decide), if_pos rfl, h.fx.r905_0, ob_some, e_keeps h.c0 h.fx.sp27 hm (by omega), ob_some, pI_e0]
          by_cases z : keptN (ai S 198) m
          · rw [pif_t z, pI_t z]
          · rw [pif_f z, pI_f z]
      · rw [if_neg hd, if_neg hd]
        rfl
    · rw [if_neg hc, if_neg hc]
      rfl
  · refine mdl2n (F := F) h' (0 ≤ x ∧ x < ai S 198 7) (0 ≤ y ∧ y < nI 5) _ (chk := f_X11_isMessage F S' 197 x) (chk2 := fun S2 => f_X11_in F S2 y.toInt64 0 4) (body := fun S10 => if 3 ≤ y then (if ¬ y = 3 then (Option.bind (f_X11_isKeptMessage F S10 197 x) fun z16 => lt z16.1 fun r18 => lt z16.2 fun S17 => if r18 = 0 then (some (0, S17)) else (some (1, S17))) else (Option.bind (f_X11_sizeOf F S10 197 x) fun z21 => lt z21.1 fun r23 => lt z21.2 fun S22 => some (r23, S22))) else (Option.bind (f_X11_messageValue F S10 197 x y) fun z25 => lt z25.1 fun r27 => lt z25.2 fun S26 => some (r27, S26))) rfl (by rw [e_isMessage h', e.net]) (e_inK F S' y 4 (by omega)) (fun hc hd T ht hx w => noW ?_)
    obtain ⟨m, hm, hm2, rfl⟩ := ixM h hc
    obtain ⟨k, hk, rfl⟩ := ix (by omega) hd
    have hm' : m < kN (ai T 198) 7 := by rw [ht, e.net]; exact hm
    rw [nI_clamp (by omega), nI_clamp (by omega)]
    rcases (show k = 3 ∨ k = 4 ∨ k < 3 by omega) with rfl | rfl | hk3
    · rw [if_pos rfl, if_pos (by decide), if_neg (fun z => z rfl), m_sizeOf hx w hm' (by omega), ht, e.net]
      rfl
    · rw [if_pos (by decide), if_pos (by decide), if_neg (by decide), if_pos rfl, m_isKeptMsg hx w hm2 (by omega), ob_some, lt_eq, lt_eq, pI_e0, ht, e.net]
      by_cases z : keptN (ai S 198) m
      · rw [pif_t z, pI_t z]
      · rw [pif_f z, pI_f z]
    · rw [if_neg (show ¬ (3 : Int32) ≤ nI k from nI_ge (b := 3) hk3 (by omega)), if_neg (fun z => by rw [nI_eq (by omega) (by omega)] at z; omega), if_neg (fun z => by rw [nI_eq (by omega) (by omega)] at z; omega), e_msg hx (by omega), ht, e.net]
      rfl
theorem ok_15 (hF : 100000 ≤ F) (h : Rel S n) (hi : ∀ k : Nat, k < 6 → vp_in (i + nI k) L) : Ok (f_law15 F xs L S n 0 197 210 211 i) := by
  have h1 : vp_in (i + 1) L := hi 1 (by omega)
  have h2 : vp_in (i + 2) L := hi 2 (by omega)
  unfold f_law15 f_L_partOf
  simp only [cki_t h1, cki_t h2]
  generalize xs (Int32.toNatClampNeg (i + 1)) = x
  generalize xs (Int32.toNatClampNeg (i + 2)) = y
  have hm4 : ∀ m, m < kN (ai S 198) 7 → ai S 198 (333 + 7 * m) = nI (manyN (ai S 198) m) ∧ manyN (ai S 198) m ≤ 4 := fun m hm => ⟨(h.w.wM m hm).2.2.2.1.1, (h.w.wM m hm).2.2.2.1.2⟩
  refine askB h (fm := fun S => f_X11_partOf F S 197 x y) ((0 ≤ x ∧ x < ai S 198 7) ∧ (0 ≤ y ∧ y < ai S 198 (333 + 7 * x.toNatClampNeg))) (ai S 198 (334 + 7 * x.toNatClampNeg + y.toNatClampNeg)) 4 1 S ?_ (Eqv.rf S) rfl (by decide) (fun S' h' e => ?_)
  · unfold f_X10_partOf f_X10_partOf_L27
    rw [e_needMessage h, ob_some]
    by_cases hc : 0 ≤ x ∧ x < ai S 198 7
    · obtain ⟨m, hm, hm2, rfl⟩ := ixM h hc
      obtain ⟨j, j1, j2⟩ := e_msgAt (F := F) h.c0 h.fx.sp27 hm
      obtain ⟨j', k1, k2, k3, k4, k5, k6, k7, k8, -⟩ := h.c0.cm m hm
      rw [j1] at k1
      cases k1
      obtain ⟨g1, g2⟩ := hm4 m hm
      rw [if_pos hc, nI_clamp (by omega), g1]
      simp only [lt_eq, sm_r, h.fx.r905_0, ob_some, j2, k3, k4]
      by_cases c1 : y < 0
      · rw [if_pos c1, if_neg (fun z => (le_nlt.mp z.2.1) c1)]
      rw [if_neg c1]
      by_cases c2 : y < nI (manyN (ai S 198) m)
      · obtain ⟨k, hk, rfl⟩ := ix (by omega) ⟨le_nlt.mpr c1, c2⟩
        rw [if_pos c2, if_pos ⟨hc, le_nlt.mpr c1, c2⟩, e_at (by omega) (by omega), ob_some, nI_clamp (by omega), k8 k hk]
      · rw [if_neg c2, if_neg (fun z => c2 z.2.2)]
    · rw [if_neg hc, if_neg (fun z => hc z.1)]
      rfl
  · unfold f_X11_partOf f_X11_partOf_L31
    rw [e_isMessage h', ob_some, e.net]
    simp only [lt_eq, eq_bI]
    have key : ∀ (p : Prop) [Decidable p] (v : Int32), (p → ∀ T, FxF T → ai T 198 = ai S 198 → f_X11_messageValue F T 197 x (3 + y) = some (v, T)) → ∃ r S2, f_X11_partOf_L32 F S' 197 x y (bI p) 197 = some (r, S2) ∧ Eqv S' S2 ∧ al S2 = al S' ∧ si S2 1000 197 = (if ¬ p then 1 else 0) ∧ (p → r = v) := by
      intro p _ v hv
      refine ⟨if p then v else 0, _, ?_, eqv_thr S' (if ¬ p then 1 else 0), rfl, th0 _ _, fun hp => if_pos hp⟩
      unfold f_X11_partOf_L32
      rw [e_passes, ob_some]
      simp only [lt_eq, eq_bI]
      by_cases hp : p
      · rw [if_pos hp, hv hp _ (fx_thr h'.fx _) e.net, ob_some, if_pos hp]
      · rw [if_neg hp, if_neg hp]
    by_cases hc : 0 ≤ x ∧ x < ai S 198 7
    · obtain ⟨m, hm, hm2, rfl⟩ := ixM h hc
      obtain ⟨g1, g2⟩ := hm4 m hm
      rw [if_pos hc, m_many h'.fx hm2, ob_some, e.net, nI_clamp (by omega), g1, e_in0 F S' y (by omega), ob_some]
      simp only [lt_eq, eq_bI]
      have k2 := key (0 ≤ y ∧ y < nI (manyN (ai S 198) m)) (ai S 198 (334 + 7 * m + y.toNatClampNeg)) (fun hd T hx ht => by
        obtain ⟨k, hk, rfl⟩ := ix (by omega) hd
        rw [show (3 : Int32) = nI 3 from rfl, nI_add, m_mpart hx hm2 (by omega), ht, nI_clamp (by omega)])
      by_cases hd : 0 ≤ y ∧ y < nI (manyN (ai S 198) m)
      · rw [if_pos hd]
        rw [bI_t hd] at k2
        obtain ⟨r, S2, a1, a2, a3, a4, a5⟩ := k2
        exact ⟨r, S2, a1, a2, a3, by rw [a4, if_neg (fun z => z hd), if_neg (fun z => z ⟨hc, hd⟩)], fun _ => a5 hd⟩
      · rw [if_neg hd]
        rw [bI_f hd] at k2
        obtain ⟨r, S2, a1, a2, a3, a4, a5⟩ := k2
        exact ⟨r, S2, a1, a2, a3, by rw [a4, if_pos hd, if_pos (fun z => hd z.2)], fun z => absurd z.2 hd⟩
    · rw [if_neg hc]
      have k2 := key False 0 (fun z => absurd z id)
      rw [bI_f id] at k2
      obtain ⟨r, S2, a1, a2, a3, a4, a5⟩ := k2
      exact ⟨r, S2, a1, a2, a3, by rw [a4, if_pos id, if_pos (fun z => hc z.1)], fun z => absurd z.1 hc⟩
theorem ok_21 (hF : 100000 ≤ F) (h : Rel S n) (hi : ∀ k : Nat, k < 6 → vp_in (i + nI k) L) : Ok (f_law21 F xs L S n 0 197 210 211 i) := by
  have h1 : vp_in (i + 1) L := hi 1 (by omega)
  have h2 : vp_in (i + 2) L := hi 2 (by omega)
  unfold f_law21 f_L_expiresOn
  simp only [cki_t h1, cki_t h2]
  generalize xs (Int32.toNatClampNeg (i + 1)) = x
  generalize xs (Int32.toNatClampNeg (i + 2)) = y
  refine askB h (fm := fun S => f_X11_expiresOn F S 197 x y) (isR (ai S 198) x y) (let N := ai S 198; let m := x.toNatClampNeg; let u := y.toNatClampNeg; let c := kN N (1172 + 3 * (10 * m + u)); if ¬ stN N m u = 0 then -1 else if ladN N c = -1 then -1 else enN N m u + (if 0 < N 2 + 1 - enN N m u - N (11 + 9 * c) then N 2 + 1 - enN N m u - N (11 + 9 * c) else 0) + ladN N c) 4 1 S ?_ (Eqv.rf S) rfl (by decide) (fun S' h' e => ?_)
  · unfold f_X10_expiresOn
    rw [e_needRef h, ob_some]
    by_cases hc : isR (ai S 198) x y
    · obtain ⟨m, u, hm, hm2, hu, hu2, rfl, rfl⟩ := ixR h hc
      obtain ⟨r, q1, q2, q3⟩ := h.ru
      obtain ⟨-, -, w1, w2, w3⟩ := h.w.wR m u hm hu2
      obtain ⟨w4, w5⟩ := w3 hu
      have cl : clN (ai S 198) m u = nI (kN (ai S 198) (1172 + 3 * (10 * m + u))) := w4.1
      have b3 := h.w.n3.2
      have b2 := h.w.n2.2
      have l3 := q3.1.l3
      have a3 : f_X10_at F S (r + 3) (nI (kN (ai S 198) (1172 + 3 * (10 * m + u)))) = some (ai S 198 (11 + 9 * kN (ai S 198) (1172 + 3 * (10 * m + u))), S) := by rw [e_at (by omega) (by omega), (q3.2.2.1 _ w5).1]
      have en : enN (ai S 198) m u = nI (kN (ai S 198) (1173 + 3 * (10 * m + u))) := w1.1
      have s701 := h.c0.s701
      rw [if_pos hc, if_pos hc, nI_clamp (by omega), nI_clamp (by omega)]
      simp only [lt_eq, sm_r, h.fx.r905_0, ob_some]
      unfold f_X8_expiryOf
      rw [e_retOf h.c0 h.fx.sp27 hm hu, ob_some]
      simp only [lt_eq, q1, ob_some]
      rw [cl, e_ladder h.w q3 w5 (by omega), ob_some]
      simp only [lt_eq]
      rw [e_state h.c0 h.fx.sp27 hm hu, ob_some]
      simp only [lt_eq]
      by_cases z1 : stN (ai S 198) m u = 0
      · simp only [if_neg (show ¬ ¬ stN (ai S 198) m u = 0 from fun z => z z1)]
        by_cases z2 : ladN (ai S 198) (kN (ai S 198) (1172 + 3 * (10 * m + u))) = -1
        · simp only [if_neg (show ¬ ¬ ladN (ai S 198) (kN (ai S 198) (1172 + 3 * (10 * m + u))) = -1 from fun z => z z2), if_pos z2, ob_some]
        · simp only [if_pos z2, if_neg z2]
          rw [q1, ob_some, q3.1.r603_0, ob_some, a3, ob_some, h.fx.sp27.r709_0, ob_some]
          rw [e_entOf h.c0 h.fx.sp27 hm hu2, ob_some, s701]
          rcases (h.w.wC _ w5).1 with z3 | z3
          · exfalso
            apply z2
            unfold ladN ladF
            rw [if_neg (nI_nm1 (by omega)), nI_clamp (by omega), if_pos z3]
          · rw [en, z3.1.1, h.w.n2.1, nI_1]
            have b5 := z3.1.2
            have b6 := w1.2
            exact congrArg (fun z => some ((Sum.inr z : Nat ⊕ Int32), S)) (i32_max (max_q (e := kN (ai S 198) (1173 + 3 * (10 * m + u))) (d := kN (ai S 198) (11 + 9 * kN (ai S 198) (1172 + 3 * (10 * m + u)))) (t := kN (ai S 198) 2 + 1) (by omega) (by omega) (by omega)))
      · simp only [if_pos z1, ob_some]
    · rw [if_neg hc, if_neg hc]
      rfl
  · refine mdl1n (F := F) h' (isR (ai S 198) x y) _ (chk := f_X11_isRef F S' 197 x y) rfl (by rw [m_isRef h'.fx h'.w, e.net]) (fun hc T ht hx w => noW ?_)
    obtain ⟨m, u, hm, hm2, hu, hu2, rfl, rfl⟩ := ixR h hc
    obtain ⟨-, -, w1, w2, w3⟩ := h.w.wR m u hm hu2
    obtain ⟨w4, w5⟩ := w3 hu
    have b3 := h.w.n3.2
    have aT : ai T 198 = ai S 198 := by rw [ht, e.net]
    have cl : ai S 198 (1171 + 3 * (10 * m + u) + 1) = nI (kN (ai S 198) (1172 + 3 * (10 * m + u))) := by rw [show 1171 + 3 * (10 * m + u) + 1 = 1172 + 3 * (10 * m + u) by omega]; exact w4.1
    have en : ai S 198 (1171 + 3 * (10 * m + u) + 2) = enN (ai S 198) m u := by rw [show 1171 + 3 * (10 * m + u) + 2 = 1173 + 3 * (10 * m + u) by omega]; rfl
    have w5' : kN (ai S 198) (1172 + 3 * (10 * m + u)) < kN (ai T 198) 3 := by rw [aT]; exact w5
    have ml := m_ladder (F := F) hx w w5' (by omega)
    have mc := m_cls0 (F := F) hx (show kN (ai S 198) (1172 + 3 * (10 * m + u)) < 8 by omega)
    have il := m_isLive (F := F) hx hm2 hu2
    rw [aT] at ml mc il
    simp only [nI_clamp (show m < 2 ^ 31 by omega), nI_clamp (show u < 2 ^ 31 by omega)]
    simp (disch := first | assumption | omega) only [ob_some, lt_eq, sm_l, sm_r, os_s, os_n, cki_nI, cki_0, cki_1, ck_bI, nI_clamp, cl0, cl1, nI_add, nI_mul, nI_1, nI_a0, nI_0a, nI_1a, nI_1m, aL2, La2, mL2, cL2, kL2, aL3, La3, mL3, cL3, kL3, aL4, La4, mL4, cL4, kL4, aL5, La5, mL5, cL5, kL5, aL6, La6, mL6, cL6, kL6, aL7, La7, mL7, cL7, kL7, aL8, La8, mL8, cL8, kL8, aL9, La9, mL9, cL9, kL9, aL10, La10, mL10, cL10, kL10, aL11, La11, mL11, cL11, kL11, aL12, La12, mL12, cL12, kL12, aL13, La13, mL13, cL13, kL13, aL14, La14, mL14, cL14, kL14, aL15, La15, mL15, cL15, kL15, aL16, La16, mL16, cL16, kL16, aL20, La20, mL20, cL20, kL20, aL21, La21, mL21, cL21, kL21, aL24, La24, mL24, cL24, kL24, aL27, La27, mL27, cL27, kL27, aL30, La30, mL30, cL30, kL30, aL31, La31, mL31, cL31, kL31, aL32, La32, mL32, cL32, kL32, aL48, La48, mL48, cL48, kL48, aL60, La60, mL60, cL60, kL60, aL83, La83, mL83, cL83, kL83, aL97, La97, mL97, cL97, kL97, aL99, La99, mL99, cL99, kL99, aL120, La120, mL120, cL120, kL120, aL122, La122, mL122, cL122, kL122, aL124, La124, mL124, cL124, kL124, aL163, La163, mL163, cL163, kL163, aL177, La177, mL177, cL177, kL177, aL200, La200, mL200, cL200, kL200, aL205, La205, mL205, cL205, kL205, aL255, La255, mL255, cL255, kL255, aL331, La331, mL331, cL331, kL331, aL480, La480, mL480, cL480, kL480, aL999, La999, mL999, cL999, kL999, aL1171, La1171, mL1171, cL1171, kL1171, aL1200, La1200, mL1200, cL1200, kL1200, aL2000, La2000, mL2000, cL2000, kL2000, aL4771, La4771, mL4771, cL4771, kL4771, aL6211, La6211, mL6211, cL6211, kL6211, aL6214, La6214, mL6214, cL6214, kL6214, aL6391, La6391, mL6391, cL6391, kL6391, aL8000, La8000, mL8000, cL8000, kL8000, aL9999, La9999, mL9999, cL9999, kL9999, aL20000, La20000, mL20000, cL20000, kL20000, aL96000, La96000, mL96000, cL96000, kL96000, nI_leI, nI_ltI, ne_bI, eq_bI, hx.r1001_197, hx.l198, m_refAt, il, aT, cl, ml, mc, en]
    by_cases z1 : stN (ai S 198) m u = 0
    · simp only [if_pos z1, if_neg (show ¬ ¬ stN (ai S 198) m u = 0 from fun z => z z1)]
      by_cases z2 : ladN (ai S 198) (kN (ai S 198) (1172 + 3 * (10 * m + u))) = -1
      · simp only [if_neg (show ¬ ¬ ladN (ai S 198) (kN (ai S 198) (1172 + 3 * (10 * m + u))) = -1 from fun z => z z2), if_pos z2]
      · simp only [if_pos z2, if_neg z2]
    · simp only [if_neg z1, if_pos z1]
end A
