/-! words of messages, holds on references -/
section CW
variable {F : Nat} {S : St} {n p : Nat} {N B : Nat → Int32}
theorem e_hasWordM (C : Cl0 S n p N B) (hs : SpF S p) {m c : Nat} {wl : Nat → Int32} (hm : m < kN N 7) (hc : 1 ≤ c) (hc2 : c ≤ 10) (hw : ∀ k, k < c → letB (wl k)) (hF : 1000 ≤ F) : f_X8_hasWord F S p (nI m) (lN (wv wl c)) = some (pI (contB N B m wl c), S) := by
  obtain ⟨j, j1, j2⟩ := e_msgAt (F := F) C hs hm
  obtain ⟨j', k1, k2, k3, k4, k5, k6, k7, k8, -⟩ := C.cm m hm
  rw [j1] at k1
  cases k1
  obtain ⟨-, -, -, h4, -, h5⟩ := C.wb.wM m hm
  have b4 : manyN N m ≤ 4 := h4.2
  have atq : ∀ q, q < kN N 8 → ∃ jj, f_X9_bytesOf F S (p + 6) (nI q) = some (some jj, S) ∧ f_X0_hasWord F S jj (lN (wv wl c)) = some (pI (∃ k, atB N B q wl c k), S) := by
    intro q hq
    obtain ⟨jj, g1, g2, g3, g4, g5, g6⟩ := e_bytesOf (F := F) C hs hq
    obtain ⟨w1, w2, -, -, w5⟩ := C.wb.wP q hq
    have b := w1.2
    refine ⟨jj, g1, ?_⟩
    rw [e_hasW (f := fun k => B (200 * q + k)) (w := wl) g3 g5 (by omega) (by omega) (fun k hk => ⟨g6 k hk, w5 k hk⟩) hc hc2 hw (by omega), pI_c]
    rw [hit_at hw]
    unfold atB
    constructor
    · rintro ⟨k, h1, h2, h3, h4⟩
      refine ⟨k, h1, fun i hi => by rw [Nat.add_assoc]; exact h2 i hi, ?_, by rw [Nat.add_assoc]; exact h4⟩
      by_cases z : k = 0
      · exact Or.inl z
      · refine Or.inr ?_
        rw [show 200 * q + k - 1 = 200 * q + (k - 1) by omega]
        rcases h3 with y | y
        · exact absurd y z
        · exact y
    · rintro ⟨k, h1, h2, h3, h4⟩
      refine ⟨k, h1, fun i hi => by have := h2 i hi; rw [Nat.add_assoc] at this; exact this, ?_, by rw [Nat.add_assoc] at h4; exact h4⟩
      by_cases z : k = 0
      · exact Or.inl z
      · refine Or.inr ?_
        rw [show 200 * q + k - 1 = 200 * q + (k - 1) by omega] at h3
        rcases h3 with y | y
        · exact absurd y z
        · exact y
  have g : ∀ d i fu, i + d = manyN N m → d < fu → f_X8_hasWord_L18 F fu S p (lN (wv wl c)) (j + 1) (nI (manyN N m)) (nI i) = some (pI (∃ i' k, i ≤ i' ∧ i' < manyN N m ∧ atB N B (partN N m i') wl c k), S) := by
    intro d
    induction d with
    | zero =>
      intro i fu hi hfu
      obtain ⟨fu, rfl⟩ : ∃ f', fu = f' + 1 := ⟨fu - 1, by omega⟩
      unfold f_X8_hasWord_L18
      rw [if_pos (nI_le (by omega) (by omega)), pI_f]
      rintro ⟨i', k, h1, h2, -⟩
      omega
    | succ d ih =>
      intro i fu hi hfu
      obtain ⟨fu, rfl⟩ : ∃ f', fu = f' + 1 := ⟨fu - 1, by omega⟩
      obtain ⟨q5, q6⟩ := h5 i (by omega)
      have q7 : N (334 + 7 * m + i) = nI (partN N m i) := q5.1
      obtain ⟨jj, a1, a2⟩ := atq (partN N m i) q6
      unfold f_X8_hasWord_L18
      rw [if_neg (nI_ge (by omega) (by omega)), k4, cki_nI (by omega) (by omega), nI_clamp (by omega), k8 i (by omega), q7, lt_eq, hs.r710_0, ob_some, a1, ob_some]
      simp only [lt_eq, ob_some]
      rw [a2, ob_some]
      simp only [pI_e0]
      by_cases z : ∃ k, atB N B (partN N m i) wl c k
      · obtain ⟨k, z⟩ := z
        rw [pif_t ⟨k, z⟩, pI_t ⟨i, k, Nat.le_refl _, by omega, z⟩]
      · rw [pif_f z, nI_1, ih (i + 1) fu (by omega) (by omega), pI_c]
        constructor
        · rintro ⟨i', k, h1, h2⟩; exact ⟨i', k, by omega, h2⟩
        · rintro ⟨i', k, h1, h2, h3⟩
          refine ⟨i', k, ?_, h2, h3⟩
          by_cases y : i' = i
          · subst y; exact absurd ⟨k, h3⟩ z
          · omega
  unfold f_X8_hasWord
  rw [j2, ob_some]
  simp only [lt_eq, ob_some]
  rw [k3, ob_some, k4, show (0 : Int32) = nI 0 from rfl, g (manyN N m) 0 F (by omega) (by omega), pI_c]
  exact ⟨fun ⟨i, k, _, h2, h3⟩ => ⟨i, k, h2, h3⟩, fun ⟨i, k, h2, h3⟩ => ⟨i, k, Nat.zero_le _, h2, h3⟩⟩
theorem st_hid {N B : Nat → Int32} (w : WB N B) {m u : Nat} (hm : m < kN N 7) (hu : u < 10) : (stN N m u = 1 ∨ stN N m u = 2) ↔ (1 ≤ stN N m u ∧ stN N m u ≤ 2) := by
  rcases (w.wR m u hm hu).1 with h | h | h | h | h <;> rw [h] <;> decide
theorem e_isHidden (C : Cl0 S n p N B) (hs : SpF S p) {m u : Nat} (hm : m < kN N 7) (hu : u < kN N 4) : f_X8_isHidden F S p (nI m) (nI u) = some (bI (1 ≤ stN N m u ∧ stN N m u ≤ 2), S) := by
  have b4 := C.wb.n4.2
  have e := st_hid C.wb hm (show u < 10 by omega)
  unfold f_X8_isHidden
  rw [e_state C hs hm hu, ob_some]
  simp only [lt_eq]
  by_cases h1 : stN N m u = 1
  · rw [if_pos h1, bI_t (e.mp (Or.inl h1))]
  rw [if_neg h1]
  by_cases h2 : stN N m u = 2
  · rw [if_neg (fun z => z h2), bI_t (e.mp (Or.inr h2))]
  · rw [if_pos h2, bI_f (fun z => by rcases e.mpr z with y | y; exact h1 y; exact h2 y)]
end CW
section A
variable {F : Nat} {xs : Nat → Int32} {L : Nat} {S : St} {n : Nat} {i : Int32}
theorem ok_23 (hF : 100000 ≤ F) (h : Rel S n) (hi : ∀ k : Nat, k < 6 → vp_in (i + nI k) L) : Ok (f_law23 F xs L S n 0 197 210 211 i) := by
  have h1 : vp_in (i + 1) L := hi 1 (by omega)
  have h2 : vp_in (i + 2) L := hi 2 (by omega)
  unfold f_law23 f_L_holdsOn
  simp only [cki_t h1, cki_t h2]
  generalize xs (Int32.toNatClampNeg (i + 1)) = x
  generalize xs (Int32.toNatClampNeg (i + 2)) = y
  refine askB h (fm := fun S => f_X11_holdsOn F S 197 x y) (isR (ai S 198) x y) (nI (covN (ai S 198) (ai S 200) x.toNatClampNeg y.toNatClampNeg)) 4 1 S ?_ (Eqv.rf S) rfl (by decide) (fun S' h' e => ?_)
  · unfold f_X10_holdsOn
    rw [e_needRef h, ob_some]
    by_cases hc : isR (ai S 198) x y
    · obtain ⟨m, u, hm, hm2, hu, hu2, rfl, rfl⟩ := ixR h hc
      rw [if_pos hc, if_pos hc, nI_clamp (by omega), nI_clamp (by omega)]
      simp (disch := first | assumption | omega) only [ob_some, lt_eq, sm_l, sm_r, os_s, os_n, cki_nI, cki_0, cki_1, ck_bI, nI_clamp, cl0, cl1, nI_add, nI_mul, nI_1, nI_a0, nI_0a, nI_1a, nI_1m, aL2, La2, mL2, cL2, kL2, aL3, La3, mL3, cL3, kL3, aL4, La4, mL4, cL4, kL4, aL5, La5, mL5, cL5, kL5, aL6, La6, mL6, cL6, kL6, aL7, La7, mL7, cL7, kL7, aL8, La8, mL8, cL8, kL8, aL9, La9, mL9, cL9, kL9, aL10, La10, mL10, cL10, kL10, aL11, La11, mL11, cL11, kL11, aL12, La12, mL12, cL12, kL12, aL13, La13, mL13, cL13, kL13, aL14, La14, mL14, cL14, kL14, aL15, La15, mL15, cL15, kL15, aL16, La16, mL16, cL16, kL16, aL20, La20, mL20, cL20, kL20, aL21, La21, mL21, cL21, kL21, aL24, La24, mL24, cL24, kL24, aL27, La27, mL27, cL27, kL27, aL30, La30, mL30, cL30, kL30, aL31, La31, mL31, cL31, kL31, aL32, La32, mL32, cL32, kL32, aL48, La48, mL48, cL48, kL48, aL60, La60, mL60, cL60, kL60, aL83, La83, mL83, cL83, kL83, aL97, La97, mL97, cL97, kL97, aL99, La99, mL99, cL99, kL99, aL120, La120, mL120, cL120, kL120, aL122, La122, mL122, cL122, kL122, aL124, La124, mL124, cL124, kL124, aL163, La163, mL163, cL163, kL163, aL177, La177, mL177, cL177, kL177, aL200, La200, mL200, cL200, kL200, aL205, La205, mL205, cL205, kL205, aL255, La255, mL255, cL255, kL255, aL331, La331, mL331, cL331, kL331, aL480, La480, mL480, cL480, kL480, aL999, La999, mL999, cL999, kL999, aL1171, La1171, mL1171, cL1171, kL1171, aL1200, La1200, mL1200, cL1200, kL1200, aL2000, La2000, mL2000, cL2000, kL2000, aL4771, La4771, mL4771, cL4771, kL4771, aL6211, La6211, mL6211, cL6211, kL6211, aL6214, La6214, mL6214, cL6214, kL6214, aL6391, La6391, mL6391, cL6391, kL6391, aL8000, La8000, mL8000, cL8000, kL8000, aL9999, La9999, mL9999, cL9999, kL9999, aL20000, La20000, mL20000, cL20000, kL20000, aL96000, La96000, mL96000, cL96000, kL96000, nI_leI, nI_ltI, ne_bI, eq_bI, h.fx.r905_0, e_covers h.c0 h.fx.sp27 (u := u) hm (by omega : 1000 ≤ F)]
    · rw [if_neg hc, if_neg hc]
      rfl
  · refine mdl1 (F := F) h' (isR (ai S 198) x y) _ (chk := f_X11_isRef F S' 197 x y) (body := fun S6 => Option.bind (f_X11_covers F S6 197 x y) fun z10 => lt z10.1 fun r12 => lt z10.2 fun S11 => some (r12, S11)) rfl (by rw [m_isRef h'.fx h'.w, e.net]) (fun hc T ht hx w => ?_)
    obtain ⟨m, u, hm, hm2, hu, hu2, rfl, rfl⟩ := ixR h hc
    have aT : ai T 198 = ai S 198 := by rw [ht, e.net]
    have aB : ai T 200 = ai S 200 := by rw [ht, e.bytes]
    obtain ⟨T', t1, t2⟩ := m_covers (F := F) hx w (m := m) (u := u) (by rw [aT]; exact hm) (by omega)
    rw [aT, aB] at t1
    rw [nI_clamp (by omega), nI_clamp (by omega)]
    exact ⟨T', by rw [t1]; rfl, t2.1, t2.2.1, t2.2.2.1⟩
theorem ok_44 (hF : 100000 ≤ F) (h : Rel S n) (hi : ∀ k : Nat, k < 6 → vp_in (i + nI k) L) : Ok (f_law44 F xs L S n 0 197 210 211 i) := by
  have h1 : vp_in (i + 1) L := hi 1 (by omega)
  unfold f_law44 f_L_heldOnlyBy
  simp only [cki_t h1]
  generalize xs (Int32.toNatClampNeg (i + 1)) = x
  have b7 := h.w.n7.2
  have b4 := h.w.n4.2
  have q7 := h.w.n7.1
  have s705 := h.c0.s705
  refine askB h (fm := fun S => f_X11_heldOnlyBy F S 197 x) (0 ≤ x ∧ x < ai S 198 6) (runN (fun m a => if ¬ (1 ≤ stN (ai S 198) m (kN (ai S 198) (205 + 21 * x.toNatClampNeg)) ∧ stN (ai S 198) m (kN (ai S 198) (205 + 21 * x.toNatClampNeg)) ≤ 2) then a else if ¬ nI (covN (ai S 198) (ai S 200) m (kN (ai S 198) (205 + 21 * x.toNatClampNeg))) = 1 <<< (x &&& 31) then a else a + 1) (kN (ai S 198) 7) 0 0) 4 1 S ?_ (Eqv.rf S) rfl (by decide) (fun S' h' e => ?_)
  · unfold f_X10_heldOnlyBy
    rw [e_needHold h, ob_some]
    by_cases hc : 0 ≤ x ∧ x < ai S 198 6
    · obtain ⟨k, hk, hk2, rfl⟩ := ixH h hc
      obtain ⟨r, q1, q2, q3⟩ := h.ru
      obtain ⟨w1, w2, -⟩ := h.w.wH k hk
      have l15 := q3.1.l15
      have a15 : f_X10_at F S (r + 15) (nI k) = some (nI (kN (ai S 198) (205 + 21 * k)), S) := by rw [e_at (by omega) (by omega), (q3.2.2.2.2.2 k hk).1, w1.1]
      rw [if_pos hc, if_pos hc, nI_clamp (by omega)]
      generalize kN (ai S 198) (205 + 21 * k) = u at a15 w2
      simp only [lt_eq, sm_r, h.fx.r905_0, ob_some]
      unfold f_X8_hiddenOnlyBy
      rw [q1, ob_some, q3.1.r612_0, ob_some, a15, ob_some]
      simp only [lt_eq]
      have hh := loopR0 (fun fu j a => f_X8_hiddenOnlyBy_L17 F fu S 27 (nI k) (nI u) a (nI j)) (kN (ai S 198) 7) (fun m a => if ¬ (1 ≤ stN (ai S 198) m u ∧ stN (ai S 198) m u ≤ 2) then a else if ¬ nI (covN (ai S 198) (ai S 200) m u) = 1 <<< (nI k &&& 31) then a else a + 1) (fun a => (a, S)) (F := F) 0 (by omega) (fun fu a => ?_) (fun fu j a hj => ?_)
      · rw [show nI 0 = (0 : Int32) from rfl] at hh
        rw [hh]
        rfl
      · simp (disch := first | assumption | omega) only [ob_some, lt_eq, sm_l, sm_r, os_s, os_n, cki_nI, cki_0, cki_1, ck_bI, nI_clamp, cl0, cl1, nI_add, nI_mul, nI_1, nI_a0, nI_0a, nI_1a, nI_1m, aL2, La2, mL2, cL2, kL2, aL3, La3, mL3, cL3, kL3, aL4, La4, mL4, cL4, kL4, aL5, La5, mL5, cL5, kL5, aL6, La6, mL6, cL6, kL6, aL7, La7, mL7, cL7, kL7, aL8, La8, mL8, cL8, kL8, aL9, La9, mL9, cL9, kL9, aL10, La10, mL10, cL10, kL10, aL11, La11, mL11, cL11, kL11, aL12, La12, mL12, cL12, kL12, aL13, La13, mL13, cL13, kL13, aL14, La14, mL14, cL14, kL14, aL15, La15, mL15, cL15, kL15, aL16, La16, mL16, cL16, kL16, aL20, La20, mL20, cL20, kL20, aL21, La21, mL21, cL21, kL21, aL24, La24, mL24, cL24, kL24, aL27, La27, mL27, cL27, kL27, aL30, La30, mL30, cL30, kL30, aL31, La31, mL31, cL31, kL31, aL32, La32, mL32, cL32, kL32, aL48, La48, mL48, cL48, kL48, aL60, La60, mL60, cL60, kL60, aL83, La83, mL83, cL83, kL83, aL97, La97, mL97, cL97, kL97, aL99, La99, mL99, cL99, kL99, aL120, La120, mL120, cL120, kL120, aL122, La122, mL122, cL122, kL122, aL124, La124, mL124, cL124, kL124, aL163, La163, mL163, cL163, kL163, aL177, La177, mL177, cL177, kL177, aL200, La200, mL200, cL200, kL200, aL205, La205, mL205, cL205, kL205, aL255, La255, mL255, cL255, kL255, aL331, La331, mL331, cL331, kL331, aL480, La480, mL480, cL480, kL480, aL999, La999, mL999, cL999, kL999, aL1171, La1171, mL1171, cL1171, kL1171, aL1200, La1200, mL1200, cL1200, kL1200, aL2000, La2000, mL2000, cL2000, kL2000, aL4771, La4771, mL4771, cL4771, kL4771, aL6211, La6211, mL6211, cL6211, kL6211, aL6214, La6214, mL6214, cL6214, kL6214, aL6391, La6391, mL6391, cL6391, kL6391, aL8000, La8000, mL8000, cL8000, kL8000, aL9999, La9999, mL9999, cL9999, kL9999, aL20000, La20000, mL20000, cL20000, kL20000, aL96000, La96000, mL96000, cL96000, kL96000, nI_leI, nI_ltI, ne_bI, eq_bI, if_pos, if_neg, f_X8_hiddenOnlyBy_L17, s705]
      · simp (disch := first | assumption | omega) only [ob_some, lt_eq, sm_l, sm_r, os_s, os_n, cki_nI, cki_0, cki_1, ck_bI, nI_clamp, cl0, cl1, nI_add, nI_mul, nI_1, nI_a0, nI_0a, nI_1a, nI_1m, aL2, La2, mL2, cL2, kL2, aL3, La3, mL3, cL3, kL3, aL4, La4, mL4, cL4, kL4, aL5, La5, mL5, cL5, kL5, aL6, La6, mL6, cL6, kL6, aL7, La7, mL7, cL7, kL7, aL8, La8, mL8, cL8, kL8, aL9, La9, mL9, cL9, kL9, aL10, La10, mL10, cL10, kL10, aL11, La11, mL11, cL11, kL11, aL12, La12, mL12, cL12, kL12, aL13, La13, mL13, cL13, kL13, aL14, La14, mL14, cL14, kL14, aL15, La15, mL15, cL15, kL15, aL16, La16, mL16, cL16, kL16, aL20, La20, mL20, cL20, kL20, aL21, La21, mL21, cL21, kL21, aL24, La24, mL24, cL24, kL24, aL27, La27, mL27, cL27, kL27, aL30, La30, mL30, cL30, kL30, aL31, La31, mL31, cL31, kL31, aL32, La32, mL32, cL32, kL32, aL48, La48, mL48, cL48, kL48, aL60, La60, mL60, cL60, kL60, aL83, La83, mL83, cL83, kL83, aL97, La97, mL97, cL97, kL97, aL99, La99, mL99, cL99, kL99, aL120, La120, mL120, cL120, kL120, aL122, La122, mL122, cL122, kL122, aL124, La124, mL124, cL124, kL124, aL163, La163, mL163, cL163, kL163, aL177, La177, mL177, cL177, kL177, aL200, La200, mL200, cL200, kL200, aL205, La205, mL205, cL205, kL205, aL255, La255, mL255, cL255, kL255, aL331, La331, mL331, cL331, kL331, aL480, La480, mL480, cL480, kL480, aL999, La999, mL999, cL999, kL999, aL1171, La1171, mL1171, cL1171, kL1171, aL1200, La1200, mL1200, cL1200, kL1200, aL2000, La2000, mL2000, cL2000, kL2000, aL4771, La4771, mL4771, cL4771, kL4771, aL6211, La6211, mL6211, cL6211, kL6211, aL6214, La6214, mL6214, cL6214, kL6214, aL6391, La6391, mL6391, cL6391, kL6391, aL8000, La8000, mL8000, cL8000, kL8000, aL9999, La9999, mL9999, cL9999, kL9999, aL20000, La20000, mL20000, cL20000, kL20000, aL96000, La96000, mL96000, cL96000, kL96000, nI_leI, nI_ltI, ne_bI, eq_bI, f_X8_hiddenOnlyBy_L17, f_X8_hiddenOnlyBy_L52, s705, e_isHidden h.c0 h.fx.sp27 hj w2, e_covers h.c0 h.fx.sp27 (u := u) hj (by omega : 1000 ≤ F)]
        rw [if_neg (by omega)]
        by_cases z1 : 1 ≤ stN (ai S 198) j u ∧ stN (ai S 198) j u ≤ 2
        · simp only [if_pos z1, if_neg (show ¬ ¬ (1 ≤ stN (ai S 198) j u ∧ stN (ai S 198) j u ≤ 2) from fun z => z z1)]
          by_cases z2 : nI (covN (ai S 198) (ai S 200) j u) = 1 <<< (nI k &&& 31)
          · simp only [if_neg (show ¬ ¬ nI (covN (ai S 198) (ai S 200) j u) = 1 <<< (nI k &&& 31) from fun z => z z2)]
          · simp only [if_pos z2]
        · simp only [if_neg z1, if_pos z1]
    · rw [if_neg hc, if_neg hc]
      rfl
  · refine mdl1n (F := F) h' (0 ≤ x ∧ x < ai S 198 6) _ (chk := f_X11_isHold F S' 197 x) (body := fun S36 => Option.bind (f_X11_holdValue F S36 197 x 0) fun z40 => lt z40.1 fun r42 => lt z40.2 fun S41 => f_X11_heldOnlyBy_L26 F F S41 197 x r42 0 0) rfl (by rw [e_isHold h', e.net]) (fun hc T ht hx w => ?_)
    obtain ⟨k, hk, hk2, rfl⟩ := ixH h hc
    have aT : ai T 198 = ai S 198 := by rw [ht, e.net]
    have aB : ai T 200 = ai S 200 := by rw [ht, e.bytes]
    obtain ⟨w1, w2, -⟩ := h.w.wH k hk
    rw [nI_clamp (by omega), show (0 : Int32) = nI 0 from rfl, m_hld hx hk2 (by omega), ob_some, aT, Nat.add_zero, w1.1]
    simp only [lt_eq]
    generalize kN (ai S 198) (205 + 21 * k) = u at w2
    have ee := loopE (fun fu j (a : Int32 × St) => f_X11_heldOnlyBy_L26 F fu a.2 197 (nI k) (nI u) a.1 (nI j)) (kN (ai S 198) 7) (fun j a => a.1 = runN (fun m a => if ¬ (1 ≤ stN (ai S 198) m u ∧ stN (ai S 198) m u ≤ 2) then a else if ¬ nI (covN (ai S 198) (ai S 200) m u) = 1 <<< (nI k &&& 31) then a else a + 1) j 0 0 ∧ Sc T a.2) (fun b => b.1 = runN (fun m a => if ¬ (1 ≤ stN (ai S 198) m u ∧ stN (ai S 198) m u ≤ 2) then a else if ¬ nI (covN (ai S 198) (ai S 200) m u) = 1 <<< (nI k &&& 31) then a else a + 1) (kN (ai S 198) 7) 0 0 ∧ Sc T b.2) (fun fu a hI => ?_) (fun fu j a hj hI => Or.inr ?_) F 0 (nI 0, T) (by omega) (by omega) ⟨rfl, Sc.rf T⟩
    · obtain ⟨b, g1, g2, g3⟩ := ee
      exact ⟨b.2, g1.trans (congrArg some (Prod.ext g2 rfl)), g3.1, g3.2.1, g3.2.2.1⟩
    · obtain ⟨i1, i2⟩ := hI
      have x2 := i2.fx hx
      refine ⟨(a.1, a.2), ?_, i1, i2⟩
      have n2 : ai a.2 198 = ai S 198 := i2.n.trans aT
      simp (disch := first | assumption | omega) only [ob_some, lt_eq, sm_l, sm_r, os_s, os_n, cki_nI, cki_0, cki_1, ck_bI, nI_clamp, cl0, cl1, nI_add, nI_mul, nI_1, nI_a0, nI_0a, nI_1a, nI_1m, aL2, La2, mL2, cL2, kL2, aL3, La3, mL3, cL3, kL3, aL4, La4, mL4, cL4, kL4, aL5, La5, mL5, cL5, kL5, aL6, La6, mL6, cL6, kL6, aL7, La7, mL7, cL7, kL7, aL8, La8, mL8, cL8, kL8, aL9, La9, mL9, cL9, kL9, aL10, La10, mL10, cL10, kL10, aL11, La11, mL11, cL11, kL11, aL12, La12, mL12, cL12, kL12, aL13, La13, mL13, cL13, kL13, aL14, La14, mL14, cL14, kL14, aL15, La15, mL15, cL15, kL15, aL16, La16, mL16, cL16, kL16, aL20, La20, mL20, cL20, kL20, aL21, La21, mL21, cL21, kL21, aL24, La24, mL24, cL24, kL24, aL27, La27, mL27, cL27, kL27, aL30, La30, mL30, cL30, kL30, aL31, La31, mL31, cL31, kL31, aL32, La32, mL32, cL32, kL32, aL48, La48, mL48, cL48, kL48, aL60, La60, mL60, cL60, kL60, aL83, La83, mL83, cL83, kL83, aL97, La97, mL97, cL97, kL97, aL99, La99, mL99, cL99, kL99, aL120, La120, mL120, cL120, kL120, aL122, La122, mL122, cL122, kL122, aL124, La124, mL124, cL124, kL124, aL163, La163, mL163, cL163, kL163, aL177, La177, mL177, cL177, kL177, aL200, La200, mL200, cL200, kL200, aL205, La205, mL205, cL205, kL205, aL255, La255, mL255, cL255, kL255, aL331, La331, mL331, cL331, kL331, aL480, La480, mL480, cL480, kL480, aL999, La999, mL999, cL999, kL999, aL1171, La1171, mL1171, cL1171, kL1171, aL1200, La1200, mL1200, cL1200, kL1200, aL2000, La2000, mL2000, cL2000, kL2000, aL4771, La4771, mL4771, cL4771, kL4771, aL6211, La6211, mL6211, cL6211, kL6211, aL6214, La6214, mL6214, cL6214, kL6214, aL6391, La6391, mL6391, cL6391, kL6391, aL8000, La8000, mL8000, cL8000, kL8000, aL9999, La9999, mL9999, cL9999, kL9999, aL20000, La20000, mL20000, cL20000, kL20000, aL96000, La96000, mL96000, cL96000, kL96000, nI_leI, nI_ltI, ne_bI, eq_bI, if_pos, if_neg, f_X11_heldOnlyBy_L26, x2.r1001_197, x2.l198, n2, q7]
    · obtain ⟨i1, i2⟩ := hI
      have x2 := i2.fx hx
      have n2 : ai a.2 198 = ai S 198 := i2.n.trans aT
      have b2 : ai a.2 200 = ai S 200 := i2.b.trans aB
      have hd := m_isHidden (F := F) x2 (m := j) (u := u) (by omega) (by omega)
      rw [n2] at hd
      obtain ⟨T', t1, t2⟩ := m_covers (F := F) (B := ai S 200) x2 (by rw [n2]; exact h.w) (m := j) (u := u) (by rw [n2]; exact hj) (by omega)
      rw [n2, b2] at t1
      by_cases z1 : 1 ≤ stN (ai S 198) j u ∧ stN (ai S 198) j u ≤ 2
      · refine ⟨(if ¬ nI (covN (ai S 198) (ai S 200) j u) = 1 <<< (nI k &&& 31) then a.1 else a.1 + 1, T'), ⟨?_, i2.tr t2⟩, ?_⟩
        · rw [runN_s, Nat.zero_add, ← i1, if_neg (show ¬ ¬ (1 ≤ stN (ai S 198) j u ∧ stN (ai S 198) j u ≤ 2) from fun z => z z1)]
        · simp (disch := first | assumption | omega) only [ob_some, lt_eq, sm_l, sm_r, os_s, os_n, cki_nI, cki_0, cki_1, ck_bI, nI_clamp, cl0, cl1, nI_add, nI_mul, nI_1, nI_a0, nI_0a, nI_1a, nI_1m, aL2, La2, mL2, cL2, kL2, aL3, La3, mL3, cL3, kL3, aL4, La4, mL4, cL4, kL4, aL5, La5, mL5, cL5, kL5, aL6, La6, mL6, cL6, kL6, aL7, La7, mL7, cL7, kL7, aL8, La8, mL8, cL8, kL8, aL9, La9, mL9, cL9, kL9, aL10, La10, mL10, cL10, kL10, aL11, La11, mL11, cL11, kL11, aL12, La12, mL12, cL12, kL12, aL13, La13, mL13, cL13, kL13, aL14, La14, mL14, cL14, kL14, aL15, La15, mL15, cL15, kL15, aL16, La16, mL16, cL16, kL16, aL20, La20, mL20, cL20, kL20, aL21, La21, mL21, cL21, kL21, aL24, La24, mL24, cL24, kL24, aL27, La27, mL27, cL27, kL27, aL30, La30, mL30, cL30, kL30, aL31, La31, mL31, cL31, kL31, aL32, La32, mL32, cL32, kL32, aL48, La48, mL48, cL48, kL48, aL60, La60, mL60, cL60, kL60, aL83, La83, mL83, cL83, kL83, aL97, La97, mL97, cL97, kL97, aL99, La99, mL99, cL99, kL99, aL120, La120, mL120, cL120, kL120, aL122, La122, mL122, cL122, kL122, aL124, La124, mL124, cL124, kL124, aL163, La163, mL163, cL163, kL163, aL177, La177, mL177, cL177, kL177, aL200, La200, mL200, cL200, kL200, aL205, La205, mL205, cL205, kL205, aL255, La255, mL255, cL255, kL255, aL331, La331, mL331, cL331, kL331, aL480, La480, mL480, cL480, kL480, aL999, La999, mL999, cL999, kL999, aL1171, La1171, mL1171, cL1171, kL1171, aL1200, La1200, mL1200, cL1200, kL1200, aL2000, La2000, mL2000, cL2000, kL2000, aL4771, La4771, mL4771, cL4771, kL4771, aL6211, La6211, mL6211, cL6211, kL6211, aL6214, La6214, mL6214, cL6214, kL6214, aL6391, La6391, mL6391, cL6391, kL6391, aL8000, La8000, mL8000, cL8000, kL8000, aL9999, La9999, mL9999, cL9999, kL9999, aL20000, La20000, mL20000, cL20000, kL20000, aL96000, La96000, mL96000, cL96000, kL96000, nI_leI, nI_ltI, ne_bI, eq_bI, f_X11_heldOnlyBy_L26, f_X11_heldOnlyBy_L66, f_X11_heldOnlyBy_L67, x2.r1001_197, x2.l198, n2, q7, hd, t1, Int32.add_zero]
          rw [if_neg (by omega), if_pos z1]
          by_cases z2 : nI (covN (ai S 198) (ai S 200) j u) = 1 <<< (nI k &&& 31)
          · simp only [if_neg (show ¬ ¬ nI (covN (ai S 198) (ai S 200) j u) = 1 <<< (nI k &&& 31) from fun z => z z2)]
          · simp only [if_pos z2]
      · refine ⟨(a.1, a.2), ⟨?_, i2⟩, ?_⟩
        · rw [runN_s, Nat.zero_add, ← i1, if_pos z1]
        · simp (disch := first | assumption | omega) only [ob_some, lt_eq, sm_l, sm_r, os_s, os_n, cki_nI, cki_0, cki_1, ck_bI, nI_clamp, cl0, cl1, nI_add, nI_mul, nI_1, nI_a0, nI_0a, nI_1a, nI_1m, aL2, La2, mL2, cL2, kL2, aL3, La3, mL3, cL3, kL3, aL4, La4, mL4, cL4, kL4, aL5, La5, mL5, cL5, kL5, aL6, La6, mL6, cL6, kL6, aL7, La7, mL7, cL7, kL7, aL8, La8, mL8, cL8, kL8, aL9, La9, mL9, cL9, kL9, aL10, La10, mL10, cL10, kL10, aL11, La11, mL11, cL11, kL11, aL12, La12, mL12, cL12, kL12, aL13, La13, mL13, cL13, kL13, aL14, La14, mL14, cL14, kL14, aL15, La15, mL15, cL15, kL15, aL16, La16, mL16, cL16, kL16, aL20, La20, mL20, cL20, kL20, aL21, La21, mL21, cL21, kL21, aL24, La24, mL24, cL24, kL24, aL27, La27, mL27, cL27, kL27, aL30, La30, mL30, cL30, kL30, aL31, La31, mL31, cL31, kL31, aL32, La32, mL32, cL32, kL32, aL48, La48, mL48, cL48, kL48, aL60, La60, mL60, cL60, kL60, aL83, La83, mL83, cL83, kL83, aL97, La97, mL97, cL97, kL97, aL99, La99, mL99, cL99, kL99, aL120, La120, mL120, cL120, kL120, aL122, La122, mL122, cL122, kL122, aL124, La124, mL124, cL124, kL124, aL163, La163, mL163, cL163, kL163, aL177, La177, mL177, cL177, kL177, aL200, La200, mL200, cL200, kL200, aL205, La205, mL205, cL205, kL205, aL255, La255, mL255, cL255, kL255, aL331, La331, mL331, cL331, kL331, aL480, La480, mL480, cL480, kL480, aL999, La999, mL999, cL999, kL999, aL1171, La1171, mL1171, cL1171, kL1171, aL1200, La1200, mL1200, cL1200, kL1200, aL2000, La2000, mL2000, cL2000, kL2000, aL4771, La4771, mL4771, cL4771, kL4771, aL6211, La6211, mL6211, cL6211, kL6211, aL6214, La6214, mL6214, cL6214, kL6214, aL6391, La6391, mL6391, cL6391, kL6391, aL8000, La8000, mL8000, cL8000, kL8000, aL9999, La9999, mL9999, cL9999, kL9999, aL20000, La20000, mL20000, cL20000, kL20000, aL96000, La96000, mL96000, cL96000, kL96000, nI_leI, nI_ltI, ne_bI, eq_bI, f_X11_heldOnlyBy_L26, f_X11_heldOnlyBy_L66, f_X11_heldOnlyBy_L67, x2.r1001_197, x2.l198, n2, q7, hd, Int32.add_zero]
          rw [if_neg (by omega), if_neg z1]
end A
