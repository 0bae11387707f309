/-! a new spool -/
def SI : St := match f_X10_init 0 (nob SE 0) 1 0 with
  | some z => z.1
  | none => SE
set_option maxRecDepth 1000000 in
set_option maxHeartbeats 4000000 in
theorem init_eq (F : Nat) : f_X10_init F (nob SE 0) 1 0 = some (SI, 197) := rfl
set_option maxRecDepth 1000000 in
theorem init_fx : FxF SI := ⟨by decide +kernel, by decide +kernel, show ∀ p ∈ spools, (∀ q ∈ spR, sr SI q.1 (p + q.2.1) = some (p + q.2.2)) ∧ ∀ q ∈ spL, ln SI (p + q.1) = q.2 by decide +kernel, by decide +kernel⟩
set_option maxRecDepth 1000000 in
theorem init_vals : si SI 903 0 = 0 ∧ si SI 904 0 = -1 ∧ si SI 1 20 = 0 ∧ si SI 1 22 = 0 ∧ si SI 909 0 = 0 ∧ si SI 908 0 = 0 ∧ sr SI 700 27 = some 1 ∧ si SI 701 27 = 0 ∧ si SI 702 27 = 0 ∧ si SI 705 27 = 0 ∧ si SI 703 27 = 0 ∧ si SI 600 1 = 0 ∧ si SI 601 1 = 1 ∧ si SI 401 2 = 0 ∧ si SI 401 7 = 0 ∧ si SI 401 11 = 0 ∧ si SI 401 14 = 0 ∧ si SI 800 33 = 0 ∧ si SI 801 33 = 0 ∧ si SI 802 33 = 0 ∧ si SI 204 40 = 0 ∧ si SI 203 40 = 0 := by decide +kernel
set_option maxRecDepth 1000000 in
theorem init_ru : RuF SI 1 := show (∀ q ∈ ruR, sr SI q.1 (1 + q.2.1) = some (1 + q.2.2)) ∧ ∀ q ∈ ruL, ln SI (1 + q.1) = q.2 by decide +kernel
def NI : Nat → Int32 := fun k => if k = 1 then 1 else 0
theorem init_rc (Ns Bs : Nat → Nat → Int32) (B : Nat → Int32) : RC SI 197 0 0 Ns Bs NI B := by
  obtain ⟨b1, b2, b3, b4, a11, a13, a15, a16, a17, a18, a19, a20, a21, a22, a23, a24, a25, a26, a27, a28, a29, a30⟩ := init_vals
  have hk : ∀ i, ¬ i = 1 → kN NI i = 0 := fun i h => by unfold kN NI; rw [if_neg h]; rfl
  have hk1 : kN NI 1 = 1 := rfl
  have hz : ∀ i, ¬ i = 1 → NI i = 0 := fun i h => by unfold NI; rw [if_neg h]
  have hc : ∀ i b, ¬ i = 1 → isCnt NI i b := fun i b h => ⟨by rw [hk i h, hz i h]; rfl, by rw [hk i h]; omega⟩
  have hc0 : cntP (fun q => isN NI q = 1) (kN NI 8) = 0 := by rw [hk 8 (by decide)]; rfl
  have hc1 : cntP (fun q => isN NI q = 1 ∧ ¬ deN NI q = -1) (kN NI 8) = 0 := by rw [hk 8 (by decide)]; rfl
  refine ⟨Nat.le_refl _, init_fx, ⟨by omega, by omega, a11, a13, fun i h => absurd h (by omega)⟩, ?_, ⟨1, a15, Or.inl rfl, init_ru, ?_, ?_, ?_, ?_, ?_⟩, ?_, ⟨0, a19, by omega, fun h hh => ?_⟩, ?_, ?_, ?_, ⟨?_, ?_⟩, ⟨?_, 0, by omega, a30, ?_⟩, Or.inr (by rw [hk 2 (by decide)]; omega)⟩
  · refine ⟨⟨hc 0 30 (by decide), ⟨by rw [hk1]; rfl, by rw [hk1]; omega⟩, by rw [hk1]; omega, hc 2 _ (by decide)⟩, ⟨hc _ _ (by decide), hc _ _ (by decide), hc _ _ (by decide), hc _ _ (by decide), hc _ _ (by decide), hc _ _ (by decide), hc _ _ (by decide), by rw [hk 8 (by decide)]; omega⟩, ?_, ?_, ?_, ?_, ?_, ?_, ?_⟩
    · intro c h; rw [hk 3 (by decide)] at h; omega
    · intro c h; rw [hk 4 (by decide)] at h; omega
    · intro c h; rw [hk 5 (by decide)] at h; omega
    · intro c h; rw [hk 6 (by decide)] at h; omega
    · intro c h; rw [hk 7 (by decide)] at h; omega
    · intro c u h; rw [hk 7 (by decide)] at h; omega
    · intro c h; rw [hk 8 (by decide)] at h; omega
  · exact ⟨by rw [a20, hz 0 (by decide)], by rw [a21]; rfl, by rw [hz 3 (by decide)]; exact a22, by rw [hz 4 (by decide)]; exact a23, by rw [hz 5 (by decide)]; exact a24, by rw [hz 6 (by decide)]; exact a25⟩
  · intro c h; rw [hk 3 (by decide)] at h; omega
  · intro c h; rw [hk 4 (by decide)] at h; omega
  · intro c h; rw [hk 5 (by decide)] at h; omega
  · intro c h; rw [hk 6 (by decide)] at h; omega
  · exact ⟨by rw [a16, hz 2 (by decide)], by rw [a17, hz 10 (by decide)], by rw [a18, hz 7 (by decide)]⟩
  · rw [hk 6 (by decide)]
    simp
  · intro c h; rw [hk 4 (by decide)] at h; omega
  · intro c h; rw [hk 7 (by decide)] at h; omega
  · intro c u h; rw [hk 7 (by decide)] at h; omega
  · exact ⟨by rw [hz 8 (by decide)]; exact a26, by rw [hc0]; exact a27, by rw [hc1]; exact a28⟩
  · intro c h; rw [hk 8 (by decide)] at h; omega
  · rw [hz 9 (by decide)]; exact a29
  · intro c h; rw [hk 9 (by decide)] at h; omega
