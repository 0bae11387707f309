theorem i8_idem (x : Int32) : x.toInt8.toInt32.toInt8 = x.toInt8 := Int8.toInt8_toInt32 _
def byt (x : Int32) (t : Nat) : Int32 := (x >>> (nI (24 - 8 * t) &&& 31)).toInt8.toInt32
theorem byt_i8 (x : Int32) (t : Nat) : (byt x t).toInt8.toInt32 = byt x t := by
  unfold byt
  rw [i8_idem]
theorem shr_u (x : BitVec 32) (k : Nat) (hk : k ≤ 24) : (x >>> k).setWidth 8 = (x.sshiftRight k).setWidth 8 := by
  apply BitVec.eq_of_getLsbD_eq
  intro i hi
  rw [BitVec.getLsbD_setWidth, BitVec.getLsbD_setWidth, BitVec.getLsbD_ushiftRight, BitVec.getLsbD_sshiftRight]
  have : k + i < 32 := by omega
  simp [hi, this]
  omega
theorem byt_0 (x : Int32) : ((x.toUInt32 >>> ((24 : Int32).toUInt32 &&& Int32.toUInt32 31)).toInt32).toInt8 = (x >>> (nI 24 &&& 31)).toInt8 := by
  apply Int8.toBitVec_inj.mp
  show ((x.toUInt32 >>> ((24 : Int32).toUInt32 &&& Int32.toUInt32 31)).toBitVec).signExtend 8 = ((x >>> (nI 24 &&& 31)).toBitVec).signExtend 8
  rw [BitVec.signExtend_eq_setWidth_of_le _ (by omega), BitVec.signExtend_eq_setWidth_of_le _ (by omega), UInt32.toBitVec_shiftRight, Int32.toBitVec_shiftRight, show (((24 : Int32).toUInt32 &&& Int32.toUInt32 31).toBitVec % 32) = 24#32 by decide, show ((nI 24 &&& 31).toBitVec.smod 32) = 24#32 by decide]
  exact shr_u x.toBitVec 24 (by omega)
theorem byt_1 (x : Int32) : ((x.toUInt32 >>> ((16 : Int32).toUInt32 &&& Int32.toUInt32 31)).toInt32).toInt8 = (x >>> (nI 16 &&& 31)).toInt8 := by
  apply Int8.toBitVec_inj.mp
  show ((x.toUInt32 >>> ((16 : Int32).toUInt32 &&& Int32.toUInt32 31)).toBitVec).signExtend 8 = ((x >>> (nI 16 &&& 31)).toBitVec).signExtend 8
  rw [BitVec.signExtend_eq_setWidth_of_le _ (by omega), BitVec.signExtend_eq_setWidth_of_le _ (by omega), UInt32.toBitVec_shiftRight, Int32.toBitVec_shiftRight, show (((16 : Int32).toUInt32 &&& Int32.toUInt32 31).toBitVec % 32) = 16#32 by decide, show ((nI 16 &&& 31).toBitVec.smod 32) = 16#32 by decide]
  exact shr_u x.toBitVec 16 (by omega)
theorem byt_2 (x : Int32) : ((x.toUInt32 >>> ((8 : Int32).toUInt32 &&& Int32.toUInt32 31)).toInt32).toInt8 = (x >>> (nI 8 &&& 31)).toInt8 := by
  apply Int8.toBitVec_inj.mp
  show ((x.toUInt32 >>> ((8 : Int32).toUInt32 &&& Int32.toUInt32 31)).toBitVec).signExtend 8 = ((x >>> (nI 8 &&& 31)).toBitVec).signExtend 8
  rw [BitVec.signExtend_eq_setWidth_of_le _ (by omega), BitVec.signExtend_eq_setWidth_of_le _ (by omega), UInt32.toBitVec_shiftRight, Int32.toBitVec_shiftRight, show (((8 : Int32).toUInt32 &&& Int32.toUInt32 31).toBitVec % 32) = 8#32 by decide, show ((nI 8 &&& 31).toBitVec.smod 32) = 8#32 by decide]
  exact shr_u x.toBitVec 8 (by omega)
theorem byt_3 (x : Int32) : x.toInt8 = (x >>> (nI 0 &&& 31)).toInt8 := by
  rw [show nI 0 &&& 31 = (0 : Int32) by decide, Int32.shiftRight_zero]
/-- c bytes g are appended to the class's buffer, which had k -/
def AppC (S T : St) (k : Nat) (g : Nat → Int32) (c : Nat) : Prop :=
  (∀ f i, sr T f i = sr S f i) ∧ (∀ f i, ¬ (f = 1 ∧ i = 20) → si T f i = si S f i) ∧ (∀ i, ¬ i = 21 → ai T i = ai S i) ∧ al T = al S ∧ ar T = ar S ∧ ln T = ln S ∧ si T 1 20 = nI (k + c) ∧ (∀ j, j < k → ai T 21 j = ai S 21 j) ∧ ∀ j, j < c → ai T 21 (k + j) = g j
theorem AppC.step {F : Nat} {S T : St} {k c : Nat} {g : Nat → Int32} (hx : FxF S) (h : AppC S T k g c) (hk : k + c < 1200) {v : Int32} (hv : v.toInt8.toInt32 = g c) : ∃ T', f_X0_add F T 20 v = some T' ∧ AppC S T' k g (c + 1) := by
  obtain ⟨h1, h2, h3, h4, h5, h6, h7, h8, h9⟩ := h
  refine ⟨ui (uai T 21 (k + c) (g c)) 1 20 (nI (k + (c + 1))), ?_, h1, fun f i q => by rw [si_ui, if_neg q]; exact h2 f i q, fun i q => by funext z; rw [ai_ui, ai_uai, if_neg (fun y => q y.1), h3 i q], h4, h5, h6, rfl, fun j hj => by rw [ai_ui, ai_uai, if_neg (by omega)]; exact h8 j hj, fun j hj => ?_⟩
  · unfold f_X0_add
    rw [h7, if_neg (nI_pos (by omega)), h1, hx.r0_20, ob_some, h6, hx.l21, if_neg (nI_ge hk (by omega)), ob_some, hx.l21, cki_nI hk (by omega), nI_clamp (by omega), i8_idem, hv]
    simp only [lt_eq, si_uai, h7, nI_1, Nat.add_assoc]
  · rw [ai_ui, ai_uai]
    by_cases z : j = c
    · subst z; rw [if_pos ⟨rfl, rfl⟩]
    · rw [if_neg (by omega)]; exact h9 j (by omega)
theorem AppC.four {F : Nat} {S T : St} {k c : Nat} {g : Nat → Int32} {x : Int32} (hx : FxF S) (h : AppC S T k g c) (hk : k + c + 3 < 1200) (hg : ∀ t, t < 4 → g (c + t) = byt x t) : ∃ T', f_X0_addFour F T 20 x = some T' ∧ AppC S T' k g (c + 4) := by
  obtain ⟨T1, a1, b1⟩ := h.step (F := F) hx (by omega) (v := (x.toUInt32 >>> ((24 : Int32).toUInt32 &&& Int32.toUInt32 31)).toInt32) (by rw [byt_0]; exact (hg 0 (by omega)).symm)
  obtain ⟨T2, a2, b2⟩ := b1.step (F := F) hx (by omega) (v := (x.toUInt32 >>> ((16 : Int32).toUInt32 &&& Int32.toUInt32 31)).toInt32) (by rw [byt_1]; exact (hg 1 (by omega)).symm)
  obtain ⟨T3, a3, b3⟩ := b2.step (F := F) hx (by omega) (v := (x.toUInt32 >>> ((8 : Int32).toUInt32 &&& Int32.toUInt32 31)).toInt32) (by rw [byt_2]; exact (hg 2 (by omega)).symm)
  obtain ⟨T4, a4, b4⟩ := b3.step (F := F) hx (by omega) (v := x) (by rw [byt_3]; exact (hg 3 (by omega)).symm)
  refine ⟨T4, ?_, b4⟩
  unfold f_X0_addFour
  rw [a1, ob_some, a2, ob_some, a3, ob_some, a4, ob_some]
section A
variable {F : Nat} {xs : Nat → Int32} {L : Nat} {S : St} {n : Nat} {i : Int32}
/-- both buffers are cut -/
theorem cut_eq {F : Nat} {S : St} {k : Nat} {v : Nat} (k2 : si S 1 20 = nI k) (hk : k ≤ 1200) (hv : v ≤ k) : ∃ T, f_X0_cutTo F S 20 (nI v) = some T ∧ (∀ f i, sr T f i = sr S f i) ∧ (∀ f i, ¬ (f = 1 ∧ i = 20) → si T f i = si S f i) ∧ ai T = ai S ∧ al T = al S ∧ ar T = ar S ∧ ln T = ln S ∧ si T 1 20 = nI v := by
  unfold f_X0_cutTo
  rw [if_neg (nI_pos (by omega)), k2]
  by_cases z : k ≤ v
  · have : v = k := by omega
    subst this
    rw [if_pos (nI_le z (by omega))]
    exact ⟨S, rfl, fun _ _ => rfl, fun _ _ _ => rfl, rfl, rfl, rfl, rfl, k2⟩
  · rw [if_neg (nI_ge (by omega) (by omega))]
    exact ⟨ui S 1 20 (nI v), rfl, fun _ _ => rfl, fun f i q => by rw [si_ui, if_neg q], rfl, rfl, rfl, rfl, rfl⟩
end A
