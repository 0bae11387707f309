/-! the input buffer: append, truncate -/
theorem endL {F : Nat} {n : Nat} {fc : Option (Int32 × St)} {fm : St → Option (Int32 × St)} (code r : Int32) (S1 S2 : St) (hc : fc = some (code, S1)) (hm : fm S1 = some (r, S2)) (h3 : si S2 1000 197 = code) (hv : code = 0 → al S2 210 0 = r.toInt64) (hR : Rel S2 n) :
    Ok (Option.bind fc fun z2 => lt z2.1 fun r4 => lt z2.2 fun S3 => Option.bind (fm S3) fun z7 => lt z7.1 fun r9 => lt z7.2 fun S8 => Option.bind (f_X11_thrown F S8 197) fun z11 => lt z11.1 fun r13 => lt z11.2 fun S12 =>
      if r13 = r4 then (if ¬ r4 = 0 then (some (S12, n)) else (cki 0 (ln S12 210) <| if (lg_cmp (al S12 210 (Int32.toNatClampNeg 0)) r9.toInt64) = 0 then (some (S12, n)) else (none))) else (none)) := by
  subst hc
  simp only [ob_some, lt_eq, hm, e_thrown, h3, if_true]
  by_cases h0 : code = 0
  · rw [if_neg (fun z => z h0), hR.fx.l210, cki_0 (by omega) (by omega), show Int32.toNatClampNeg 0 = 0 from rfl, hv h0, c0, if_pos rfl]
    exact ⟨S2, n, rfl, hR⟩
  · rw [if_pos h0]
    exact ⟨S2, n, rfl, hR⟩
theorem i8_idem (x : Int32) : x.toInt8.toInt32.toInt8 = x.toInt8 := Int8.toInt8_toInt32 _
def byt (x : Int32) (t : Nat) : Int32 := (x >>> (nI (24 - 8 * t) &&& 31)).toInt8.toInt32
theorem byt_i8 (x : Int32) (t : Nat) : (byt x t).toInt8.toInt32 = byt x t := by
  unfold byt
  rw [i8_idem]
theorem shr_u (x : BitVec 32) (k : Nat) (hk : k ≤ 24) : (x >>> k).setWidth 8 = (x.sshiftRight k).setWidth 8 := by
  apply BitVec.eq_of_getLsbD_eq
  intro i hi
  rw [BitVec.getLsbD_setWidth, BitVec.getLsbD_setWidth, BitVec.getLsbD_ushiftRight, BitVec.getLsbD_sshiftRight]
  have : k + i < 32 := by omega
  simp [hi, this]
  omega
theorem byt_0 (x : Int32) : ((x.toUInt32 >>> ((24 : Int32).toUInt32 &&& Int32.toUInt32 31)).toInt32).toInt8 = (x >>> (nI 24 &&& 31)).toInt8 := by
  apply Int8.toBitVec_inj.mp
  show ((x.toUInt32 >>> ((24 : Int32).toUInt32 &&& Int32.toUInt32 31)).toBitVec).signExtend 8 = ((x >>> (nI 24 &&& 31)).toBitVec).signExtend 8
  rw [BitVec.signExtend_eq_setWidth_of_le _ (by omega), BitVec.signExtend_eq_setWidth_of_le _ (by omega), UInt32.toBitVec_shiftRight, Int32.toBitVec_shiftRight, show (((24 : Int32).toUInt32 &&& Int32.toUInt32 31).toBitVec % 32) = 24#32 by decide, show ((nI 24 &&& 31).toBitVec.smod 32) = 24#32 by decide]
  exact shr_u x.toBitVec 24 (by omega)
theorem byt_1 (x : Int32) : ((x.toUInt32 >>> ((16 : Int32).toUInt32 &&& Int32.toUInt32 31)).toInt32).toInt8 = (x >>> (nI 16 &&& 31)).toInt8 := by
  apply Int8.toBitVec_inj.mp
  show ((x.toUInt32 >>> ((16 : Int32).toUInt32 &&& Int32.toUInt32 31)).toBitVec).signExtend 8 = ((x >>> (nI 16 &&& 31)).toBitVec).signExtend 8
  rw [BitVec.signExtend_eq_setWidth_of_le _ (by omega), BitVec.signExtend_eq_setWidth_of_le _ (by omega), UInt32.toBitVec_shiftRight, Int32.toBitVec_shiftRight, show (((16 : Int32).toUInt32 &&& Int32.toUInt32 31).toBitVec % 32) = 16#32 by decide, show ((nI 16 &&& 31).toBitVec.smod 32) = 16#32 by decide]
  exact shr_u x.toBitVec 16 (by omega)
theorem byt_2 (x : Int32) : ((x.toUInt32 >>> ((8 : Int32).toUInt32 &&& Int32.toUInt32 31)).toInt32).toInt8 = (x >>> (nI 8 &&& 31)).toInt8 := by
  apply Int8.toBitVec_inj.mp
  show ((x.toUInt32 >>> ((8 : Int32).toUInt32 &&& Int32.toUInt32 31)).toBitVec).signExtend 8 = ((x >>> (nI 8 &&& 31)).toBitVec).signExtend 8
  rw [BitVec.signExtend_eq_setWidth_of_le _ (by omega), BitVec.signExtend_eq_setWidth_of_le _ (by omega), UInt32.toBitVec_shiftRight, Int32.toBitVec_shiftRight, show (((8 : Int32).toUInt32 &&& Int32.toUInt32 31).toBitVec % 32) = 8#32 by decide, show ((nI 8 &&& 31).toBitVec.smod 32) = 8#32 by decide]
  exact shr_u x.toBitVec 8 (by omega)
theorem byt_3 (x : Int32) : x.toInt8 = (x >>> (nI 0 &&& 31)).toInt8 := by
  rw [show nI 0 &&& 31 = (0 : Int32) by decide, Int32.shiftRight_zero]
/-- c bytes g are appended to the class's buffer, which had k -/
def AppC (S T : St) (k : Nat) (g : Nat → Int32) (c : Nat) : Prop :=
  (∀ f i, sr T f i = sr S f i) ∧ (∀ f i, ¬ (f = 1 ∧ i = 20) → si T f i = si S f i) ∧ (∀ i, ¬ i = 21 → ai T i = ai S i) ∧ al T = al S ∧ ar T = ar S ∧ ln T = ln S ∧ si T 1 20 = nI (k + c) ∧ (∀ j, j < k → ai T 21 j = ai S 21 j) ∧ ∀ j, j < c → ai T 21 (k + j) = g j
theorem AppC.step {F : Nat} {S T : St} {k c : Nat} {g : Nat → Int32} (hx : FxF S) (h : AppC S T k g c) (hk : k + c < 1200) {v : Int32} (hv : v.toInt8.toInt32 = g c) : ∃ T', f_X0_add F T 20 v = some T' ∧ AppC S T' k g (c + 1) := by
  obtain ⟨h1, h2, h3, h4, h5, h6, h7, h8, h9⟩ := h
  refine ⟨ui (uai T 21 (k + c) (g c)) 1 20 (nI (k + (c + 1))), ?_, h1, fun f i q => by rw [si_ui, if_neg q]; exact h2 f i q, fun i q => by funext z; rw [ai_ui, ai_uai, if_neg (fun y => q y.1), h3 i q], h4, h5, h6, rfl, fun j hj => by rw [ai_ui, ai_uai, if_neg (by omega)]; exact h8 j hj, fun j hj => ?_⟩
  · unfold f_X0_add
    rw [h7, if_neg (nI_pos (by omega)), h1, hx.r0_20, ob_some, h6, hx.l21, if_neg (nI_ge hk (by omega)), ob_some, hx.l21, cki_nI hk (by omega), nI_clamp (by omega), i8_idem, hv]
    simp only [lt_eq, si_uai, h7, nI_1, Nat.add_assoc]
  · rw [ai_ui, ai_uai]
    by_cases z : j = c
    · subst z; rw [if_pos ⟨rfl, rfl⟩]
    · rw [if_neg (by omega)]; exact h9 j (by omega)
theorem AppC.four {F : Nat} {S T : St} {k c : Nat} {g : Nat → Int32} {x : Int32} (hx : FxF S) (h : AppC S T k g c) (hk : k + c + 3 < 1200) (hg : ∀ t, t < 4 → g (c + t) = byt x t) : ∃ T', f_X0_addFour F T 20 x = some T' ∧ AppC S T' k g (c + 4) := by
  obtain ⟨T1, a1, b1⟩ := h.step (F := F) hx (by omega) (v := (x.toUInt32 >>> ((24 : Int32).toUInt32 &&& Int32.toUInt32 31)).toInt32) (by rw [byt_0]; exact (hg 0 (by omega)).symm)
  obtain ⟨T2, a2, b2⟩ := b1.step (F := F) hx (by omega) (v := (x.toUInt32 >>> ((16 : Int32).toUInt32 &&& Int32.toUInt32 31)).toInt32) (by rw [byt_1]; exact (hg 1 (by omega)).symm)
  obtain ⟨T3, a3, b3⟩ := b2.step (F := F) hx (by omega) (v := (x.toUInt32 >>> ((8 : Int32).toUInt32 &&& Int32.toUInt32 31)).toInt32) (by rw [byt_2]; exact (hg 2 (by omega)).symm)
  obtain ⟨T4, a4, b4⟩ := b3.step (F := F) hx (by omega) (v := x) (by rw [byt_3]; exact (hg 3 (by omega)).symm)
  refine ⟨T4, ?_, b4⟩
  unfold f_X0_addFour
  rw [a1, ob_some, a2, ob_some, a3, ob_some, a4, ob_some]
/-- .. to the model's -/
def AppM (S T : St) (k : Nat) (g : Nat → Int32) (c : Nat) : Prop :=
  (∀ f i, sr T f i = sr S f i) ∧ (∀ f i, ¬ (f = 1007 ∧ i = 197) → si T f i = si S f i) ∧ (∀ i, ¬ i = 201 → ai T i = ai S i) ∧ al T = al S ∧ ar T = ar S ∧ ln T = ln S ∧ si T 1007 197 = nI (k + c) ∧ (∀ j, j < k → ai T 201 j = ai S 201 j) ∧ ∀ j, j < c → ai T 201 (k + j) = g j
theorem AppM.step {F fu : Nat} {S T : St} {k c s : Nat} {g : Nat → Int32} {x : Int32} (hx : FxF S) (h : AppM S T k g c) (hk : k + c < 1200) (hs : s ≤ 24) (hv : (x >>> (nI s &&& 31)).toInt8.toInt32 = g c) : ∃ T', f_X11_appendFour_L3 F (fu + 1) T 197 x (nI s) = f_X11_appendFour_L3 F fu T' 197 x (nI s + (-8)) ∧ AppM S T' k g (c + 1) := by
  obtain ⟨h1, h2, h3, h4, h5, h6, h7, h8, h9⟩ := h
  refine ⟨ui (uai T 201 (k + c) (g c)) 1007 197 (nI (k + (c + 1))), ?_, h1, fun f i q => by rw [si_ui, if_neg q]; exact h2 f i q, fun i q => by funext z; rw [ai_ui, ai_uai, if_neg (fun y => q y.1), h3 i q], h4, h5, h6, rfl, fun j hj => by rw [ai_ui, ai_uai, if_neg (by omega)]; exact h8 j hj, fun j hj => ?_⟩
  · conv => lhs; unfold f_X11_appendFour_L3
    rw [if_neg (nI_pos (by omega)), h1, hx.r1006_197, ob_some, h6, hx.l201, h7, cki_nI hk (by omega), nI_clamp (by omega), i8_idem, hv]
    simp only [lt_eq, si_uai, h7, nI_1, Nat.add_assoc]
  · rw [ai_ui, ai_uai]
    by_cases z : j = c
    · subst z; rw [if_pos ⟨rfl, rfl⟩]
    · rw [if_neg (by omega)]; exact h9 j (by omega)
theorem AppM.four {F : Nat} {S T : St} {k c : Nat} {g : Nat → Int32} {x : Int32} (hx : FxF S) (h : AppM S T k g c) (hk : k + c + 3 < 1200) (hg : ∀ t, t < 4 → g (c + t) = byt x t) (hF : 10 ≤ F) : ∃ T', f_X11_appendFour F T 197 x = some T' ∧ AppM S T' k g (c + 4) := by
  obtain ⟨T1, a1, b1⟩ := h.step (F := F) (fu := F - 1) (x := x) (s := 24) hx (by omega) (by omega) (hg 0 (by omega)).symm
  obtain ⟨T2, a2, b2⟩ := b1.step (F := F) (fu := F - 2) (x := x) (s := 16) hx (by omega) (by omega) (hg 1 (by omega)).symm
  obtain ⟨T3, a3, b3⟩ := b2.step (F := F) (fu := F - 3) (x := x) (s := 8) hx (by omega) (by omega) (hg 2 (by omega)).symm
  obtain ⟨T4, a4, b4⟩ := b3.step (F := F) (fu := F - 4) (x := x) (s := 0) hx (by omega) (by omega) (hg 3 (by omega)).symm
  refine ⟨T4, ?_, b4⟩
  rw [show F - 1 + 1 = F by omega, show nI 24 + (-8) = nI 16 by decide] at a1
  rw [show F - 2 + 1 = F - 1 by omega, show nI 16 + (-8) = nI 8 by decide] at a2
  rw [show F - 3 + 1 = F - 2 by omega, show nI 8 + (-8) = nI 0 by decide] at a3
  rw [show F - 4 + 1 = F - 3 by omega, show nI 0 + (-8) = (-8 : Int32) by decide] at a4
  unfold f_X11_appendFour
  rw [show (24 : Int32) = nI 24 from rfl, a1, a2, a3, a4, show F - 4 = (F - 5) + 1 by omega]
  unfold f_X11_appendFour_L3
  rw [if_pos (by decide)]
section A
variable {F : Nat} {xs : Nat → Int32} {L : Nat} {S : St} {n : Nat} {i : Int32}
theorem ok_0 (hF : 100000 ≤ F) (h : Rel S n) (hi : ∀ k : Nat, k < 6 → vp_in (i + nI k) L) : Ok (f_law0 F xs L S n 0 197 210 211 i) := by
  have v1 : vp_in (i + 1) L := hi 1 (by omega)
  have v2 : vp_in (i + 2) L := hi 2 (by omega)
  have v3 : vp_in (i + 3) L := hi 3 (by omega)
  have v4 : vp_in (i + 4) L := hi 4 (by omega)
  have v5 : vp_in (i + 5) L := hi 5 (by omega)
  unfold f_law0 f_L_append
  simp only [cki_t v1, cki_t v2, cki_t v3, cki_t v4, cki_t v5]
  generalize xs (Int32.toNatClampNeg (i + 1)) = x0
  generalize xs (Int32.toNatClampNeg (i + 2)) = x1
  generalize xs (Int32.toNatClampNeg (i + 3)) = x2
  generalize xs (Int32.toNatClampNeg (i + 4)) = x3
  generalize xs (Int32.toNatClampNeg (i + 5)) = x4
  obtain ⟨k, k1, k2, k3, k4⟩ := h.ci
  have hx := h.fx
  by_cases hk : k + 20 ≤ 1200
  · obtain ⟨g, hg⟩ : ∃ g : Nat → Int32, g = fun j => byt (if j < 4 then x0 else if j < 8 then x1 else if j < 12 then x2 else if j < 16 then x3 else x4) (j % 4) := ⟨_, rfl⟩
    have g0 : ∀ t, t < 4 → g (0 + t) = byt x0 t := fun t ht => by rw [hg]; simp only []; rw [if_pos (by omega), show (0 + t) % 4 = t by omega]
    have g1 : ∀ t, t < 4 → g (0 + 4 + t) = byt x1 t := fun t ht => by rw [hg]; simp only []; rw [if_neg (by omega), if_pos (by omega), show (0 + 4 + t) % 4 = t by omega]
    have g2 : ∀ t, t < 4 → g (0 + 4 + 4 + t) = byt x2 t := fun t ht => by rw [hg]; simp only []; rw [if_neg (by omega), if_neg (by omega), if_pos (by omega), show (0 + 4 + 4 + t) % 4 = t by omega]
    have g3 : ∀ t, t < 4 → g (0 + 4 + 4 + 4 + t) = byt x3 t := fun t ht => by rw [hg]; simp only []; rw [if_neg (by omega), if_neg (by omega), if_neg (by omega), if_pos (by omega), show (0 + 4 + 4 + 4 + t) % 4 = t by omega]
    have g4 : ∀ t, t < 4 → g (0 + 4 + 4 + 4 + 4 + t) = byt x4 t := fun t ht => by rw [hg]; simp only []; rw [if_neg (by omega), if_neg (by omega), if_neg (by omega), if_neg (by omega), show (0 + 4 + 4 + 4 + 4 + t) % 4 = t by omega]
    have gi : ∀ j, (g j).toInt8.toInt32 = g j := fun j => by rw [hg]; exact byt_i8 _ _
    have A0 : AppC S S k g 0 := ⟨fun _ _ => rfl, fun _ _ _ => rfl, fun _ _ => rfl, rfl, rfl, rfl, k2, fun _ _ => rfl, fun j hj => by omega⟩
    obtain ⟨T1, t1, A1⟩ := A0.four (F := F) hx (by omega) g0
    obtain ⟨T2, t2, A2⟩ := A1.four (F := F) hx (by omega) g1
    obtain ⟨T3, t3, A3⟩ := A2.four (F := F) hx (by omega) g2
    obtain ⟨T4, t4, A4⟩ := A3.four (F := F) hx (by omega) g3
    obtain ⟨T5, t5, A5⟩ := A4.four (F := F) hx (by omega) g4
    have fc : f_X10_append F S 0 x0 x1 x2 x3 x4 = some (.inr (nI (k + 20)), T5) := by
      unfold f_X10_append
      rw [hx.r900_0, ob_some, k2, show (20 : Int32) = nI 20 from rfl, nI_add, show (1200 : Int32) = nI 1200 from rfl, if_pos (nI_le (by omega) (by omega)), ob_some, t1, ob_some, A1.1, hx.r900_0, ob_some, t2, ob_some, A2.1, hx.r900_0, ob_some, t3, ob_some, A3.1, hx.r900_0, ob_some, t4, ob_some, A4.1, hx.r900_0, ob_some, t5, ob_some, A5.1, hx.r900_0, ob_some, A5.2.2.2.2.2.2.1]
    obtain ⟨S1, hS1⟩ : ∃ S1, S1 = ual T5 210 0 (nI (k + 20)).toInt64 := ⟨_, rfl⟩
    obtain ⟨S2, hS2⟩ : ∃ S2, S2 = ui S1 1000 197 0 := ⟨_, rfl⟩
    have hx2 : FxF S2 := by
      rw [hS2, hS1]
      exact hx.agr (fun f i _ _ => A5.1 f i) (fun i _ => by show ln T5 i = ln S i; rw [A5.2.2.2.2.2.1]) (by show ar T5 69 = ar S 69; rw [A5.2.2.2.2.1])
    have B0 : AppM S2 S2 k g 0 := ⟨fun _ _ => rfl, fun _ _ _ => rfl, fun _ _ => rfl, rfl, rfl, rfl, by rw [hS2, hS1, si_ui, if_neg (by decide), si_ual, A5.2.1 _ _ (by decide)]; exact k3, fun _ _ => rfl, fun j hj => by omega⟩
    obtain ⟨U1, u1, B1⟩ := B0.four (F := F) hx2 (by omega) g0 (by omega)
    obtain ⟨U2, u2, B2⟩ := B1.four (F := F) hx2 (by omega) g1 (by omega)
    obtain ⟨U3, u3, B3⟩ := B2.four (F := F) hx2 (by omega) g2 (by omega)
    obtain ⟨U4, u4, B4⟩ := B3.four (F := F) hx2 (by omega) g3 (by omega)
    obtain ⟨U5, u5, B5⟩ := B4.four (F := F) hx2 (by omega) g4 (by omega)
    have s7 : si S1 1007 197 = nI k := by rw [hS1, si_ual, A5.2.1 _ _ (by decide)]; exact k3
    have fm : f_X11_append F S1 197 x0 x1 x2 x3 x4 = some (nI (k + 20), U5) := by
      unfold f_X11_append f_X11_append_L19
      rw [s7, show (20 : Int32) = nI 20 from rfl, nI_add, show (1200 : Int32) = nI 1200 from rfl, if_neg (nI_nlt (by omega) (by omega)), show (1 : Int32) = bI True from rfl, e_passes, ob_some]
      simp only [lt_eq, ne_bI, if_true, not_true_eq_false, if_false]
      rw [← hS2, u1, ob_some, u2, ob_some, u3, ob_some, u4, ob_some, u5, ob_some, B5.2.2.2.2.2.2.1]
    have e1 : ∀ f i, ¬ (f = 1 ∧ i = 20) → ¬ (f = 1007 ∧ i = 197) → ¬ (f = 1000 ∧ i = 197) → si U5 f i = si S f i := fun f i q1 q2 q3 => by
      rw [B5.2.1 f i q2, hS2, si_ui, if_neg q3, hS1, si_ual, A5.2.1 f i q1]
    have e2 : ∀ i, ¬ i = 201 → ¬ i = 21 → ai U5 i = ai S i := fun i q1 q2 => by
      rw [B5.2.2.1 i q1, hS2, ai_ui, hS1, ai_ual, A5.2.2.1 i q2]
    have hR : Rel U5 n := by
      refine h.inp (fun f i _ => by rw [B5.1, hS2, hS1]; exact A5.1 f i) (fun f i q1 q2 q3 => e1 f i q2 q3 (fun z => q1 (by rw [z.1, z.2]; decide))) (fun i q1 q2 q3 => e2 i q3 q2) (fun i q => ?_) (fun i q => by rw [B5.2.2.2.2.1, hS2, hS1]; show ar T5 i = _; rw [A5.2.2.2.2.1]) (by rw [B5.2.2.2.2.2.1, hS2, hS1]; exact A5.2.2.2.2.2.1) ⟨k + 20, hk, ?_, B5.2.2.2.2.2.2.1, fun j hj => ?_⟩
      · rw [B5.2.2.2.1, hS2, al_ui, hS1]
        funext z
        rw [al_ual, if_neg (fun y => q (by rw [y.1]; decide)), A5.2.2.2.1]
      · rw [B5.2.1 _ _ (by decide), hS2, si_ui, if_neg (by decide), hS1, si_ual]
        exact A5.2.2.2.2.2.2.1
      · have a21 : ai U5 21 = ai T5 21 := by rw [B5.2.2.1 21 (by decide), hS2, ai_ui, hS1, ai_ual]
        have a201 : ai S2 201 = ai S 201 := by rw [hS2, ai_ui, hS1, ai_ual, A5.2.2.1 201 (by decide)]
        rw [a21]
        by_cases z : j < k
        · rw [A5.2.2.2.2.2.2.2.1 j z, B5.2.2.2.2.2.2.2.1 j z, a201]
          exact k4 j z
        · obtain ⟨t, rfl⟩ : ∃ t, j = k + t := ⟨j - k, by omega⟩
          rw [A5.2.2.2.2.2.2.2.2 t (by omega), B5.2.2.2.2.2.2.2.2 t (by omega)]
          exact ⟨rfl, gi t⟩
    refine endL 0 (nI (k + 20)) S1 U5 ?_ (fm := fun S => f_X11_append F S 197 x0 x1 x2 x3 x4) fm ?_ (fun _ => ?_) hR
    · rw [fc, ob_some]
      simp only [lt_eq, sm_r]
      rw [A5.2.2.2.2.2.1, hx.l210, cki_0 (by omega) (by omega), hS1]
      rfl
    · rw [B5.2.1 _ _ (by decide), hS2]
      exact th0 _ _
    · rw [B5.2.2.2.1, hS2, al_ui, hS1, al_ual, if_pos ⟨rfl, rfl⟩]
  · have e := eqv_thr S 1
    refine endL 1 0 S (ui S 1000 197 1) ?_ (fm := fun S => f_X11_append F S 197 x0 x1 x2 x3 x4) ?_ (th0 _ _) (fun z => absurd z (by decide)) (h.eqv e)
    · unfold f_X10_append
      rw [hx.r900_0, ob_some, k2, show (20 : Int32) = nI 20 from rfl, nI_add, show (1200 : Int32) = nI 1200 from rfl, if_neg (nI_ge (by omega) (by omega))]
      rfl
    · show f_X11_append F S 197 x0 x1 x2 x3 x4 = _
      unfold f_X11_append f_X11_append_L19
      rw [k3, show (20 : Int32) = nI 20 from rfl, nI_add, show (1200 : Int32) = nI 1200 from rfl, if_pos (nI_lt (by omega) (by omega)), show (0 : Int32) = bI False from rfl, e_passes, ob_some]
      simp only [lt_eq, ne_bI, if_false, not_false_eq_true, if_true]
      rfl
/-- both buffers are cut -/
theorem cut_eq {F : Nat} {S : St} {k : Nat} {v : Nat} (k2 : si S 1 20 = nI k) (hk : k ≤ 1200) (hv : v ≤ k) : ∃ T, f_X0_cutTo F S 20 (nI v) = some T ∧ (∀ f i, sr T f i = sr S f i) ∧ (∀ f i, ¬ (f = 1 ∧ i = 20) → si T f i = si S f i) ∧ ai T = ai S ∧ al T = al S ∧ ar T = ar S ∧ ln T = ln S ∧ si T 1 20 = nI v := by
  unfold f_X0_cutTo
  rw [if_neg (nI_pos (by omega)), k2]
  by_cases z : k ≤ v
  · have : v = k := by omega
    subst this
    rw [if_pos (nI_le z (by omega))]
    exact ⟨S, rfl, fun _ _ => rfl, fun _ _ _ => rfl, rfl, rfl, rfl, rfl, k2⟩
  · rw [if_neg (nI_ge (by omega) (by omega))]
    exact ⟨ui S 1 20 (nI v), rfl, fun _ _ => rfl, fun f i q => by rw [si_ui, if_neg q], rfl, rfl, rfl, rfl, rfl⟩
theorem ok_1 (hF : 100000 ≤ F) (h : Rel S n) (hi : ∀ k : Nat, k < 6 → vp_in (i + nI k) L) : Ok (f_law1 F xs L S n 0 197 210 211 i) := by
  have v1 : vp_in (i + 1) L := hi 1 (by omega)
  unfold f_law1 f_L_truncate
  simp only [cki_t v1]
  generalize xs (Int32.toNatClampNeg (i + 1)) = x
  obtain ⟨k, k1, k2, k3, k4⟩ := h.ci
  have hx := h.fx
  have hin : ∀ S', si S' 1007 197 = nI k → f_X11_in F S' x.toInt64 0 (si S' 1007 197).toInt64 = some (bI (0 ≤ x ∧ x ≤ nI k), S') := fun S' e => by
    rw [e]; exact e_in F S' x 0 (nI k)
  by_cases hc : 0 ≤ x ∧ x ≤ nI k
  · obtain ⟨v, hv, rfl⟩ := nI_of (le_nlt.mp hc.1)
    have hvk : v ≤ k := (nI_leI hv (by omega)).mp hc.2
    obtain ⟨T, t1, t2, t3, t4, t5, t6, t7, t8⟩ := cut_eq (F := F) (S := S) k2 k1 hvk
    have fc : f_X10_truncate F S 0 (nI v) = some (.inr (), T) := by
      unfold f_X10_truncate
      rw [if_neg (nI_pos (by omega)), hx.r900_0, ob_some, k2, if_pos hc.2, ob_some, t1, ob_some]
    have s7 : si T 1007 197 = nI k := (t3 _ _ (by decide)).trans k3
    rw [fc]
    simp only [ob_some, lt_eq, sm_r]
    unfold f_X11_truncate
    rw [hin T s7, ob_some]
    simp only [lt_eq]
    rw [e_passes, ob_some]
    simp only [eq_bI, if_pos hc, if_neg (show ¬ ¬ (0 ≤ nI v ∧ nI v ≤ nI k) from fun z => z hc), ob_some, e_thrown]
    rw [if_pos (by rw [si_ui, if_neg (by decide)]; rfl)]
    refine ⟨_, n, rfl, ?_⟩
    refine h.inp (fun f i _ => t2 f i) (fun f i q1 q2 q3 => ?_) (fun i q1 q2 q3 => by show ai T i = ai S i; rw [t4]) (fun i q => by show al T i = al S i; rw [t5]) (fun i q => by show ar T i = ar S i; rw [t6]) t7 ⟨v, by omega, ?_, rfl, fun j hj => ?_⟩
    · rw [si_ui, if_neg q3, si_ui, if_neg (fun z => q1 (by rw [z.1, z.2]; decide))]
      exact t3 f i q2
    · rw [si_ui, if_neg (by decide), si_ui, if_neg (by decide)]
      exact t8
    · show ai T 21 j = ai T 201 j ∧ (ai T 201 j).toInt8.toInt32 = ai T 201 j
      rw [t4]
      exact k4 j (by omega)
  · have fc : f_X10_truncate F S 0 x = some (.inl 2, S) := by
      unfold f_X10_truncate f_X10_truncate_L15
      by_cases c1 : x < 0
      · rw [if_pos c1]
      · rw [if_neg c1, hx.r900_0, ob_some, k2, if_neg (fun z => hc ⟨le_nlt.mpr c1, z⟩)]
    rw [fc]
    simp only [ob_some, lt_eq, sm_l, if_true]
    unfold f_X11_truncate
    rw [hin S k3, ob_some]
    simp only [lt_eq]
    rw [e_passes, ob_some]
    simp only [eq_bI, if_neg hc, if_pos (show ¬ (0 ≤ x ∧ x ≤ nI k) from hc), ob_some, e_thrown]
    rw [if_pos (th0 _ _)]
    exact ⟨_, n, rfl, h.eqv (eqv_thr S 1)⟩
end A
