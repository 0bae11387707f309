section Fs
variable {F : Nat} {S T : St} {n r : Nat} {N B : Nat → Int32}
theorem all_v : ∀ k, k < 7 → (1 : Int32) <<< (nI k &&& 31) - 1 = nI (2 ^ k - 1) ∧ 2 ^ k - 1 < 64 := by decide +kernel
theorem all_b : ∀ k, k < 7 → ∀ h, h < 6 → ((2 ^ k - 1).testBit h = true ↔ h < k) := by decide +kernel
theorem e_start {k : Nat} (hs : SpF T 27) (hr : RuF T r) (hrr : 197 ≤ r) (hk : si T 401 (r + 13) = nI k) (hk6 : k ≤ 6) : ∃ T2, f_X8_startWith F T 27 r = some T2 ∧ sr T2 700 27 = some r ∧ (si T2 701 27 = 0 ∧ si T2 702 27 = 0 ∧ si T2 703 27 = nI (2 ^ k - 1) ∧ si T2 705 27 = 0) ∧ (∀ u, u < 10 → ai T2 28 u = ai T (r + 9) u) ∧
    (si T2 800 33 = 0 ∧ si T2 801 33 = 0 ∧ si T2 802 33 = 0) ∧ (si T2 203 40 = 0 ∧ si T2 204 40 = 0) ∧ (∀ i, ¬ (27 ≤ i ∧ i ≤ 40) → SameO T T2 i) ∧ (∀ g i, ¬ (g = 700 ∧ i = 27) → sr T2 g i = sr T g i) ∧ ln T2 = ln T ∧ ar T2 = ar T := by
  obtain ⟨A, hA⟩ : ∃ A, A = ui (ui (ui (ur T 700 27 (some r)) 701 27 0) 702 27 0) 703 27 (nI (2 ^ k - 1)) := ⟨_, rfl⟩
  obtain ⟨B1, hB⟩ : ∃ B1, B1 = sai A 28 (cpF (ai A (r + 9)) (ai A 28) 10) := ⟨_, rfl⟩
  obtain ⟨Z, hZ⟩ : ∃ Z, Z = ui (ui (ui (ui (ui (ui B1 705 27 0) 800 33 0) 801 33 0) 802 33 0) 203 40 0) 204 40 0 := ⟨_, rfl⟩
  have srA : ∀ g i, ¬ (g = 700 ∧ i = 27) → sr A g i = sr T g i := fun g i a => by rw [hA, sr_ui, sr_ui, sr_ui, sr_ur, if_neg a]
  have lnA : ln A = ln T := by rw [hA]; rfl
  have aiA : ai A = ai T := by rw [hA]; rfl
  have srZ : ∀ g i, ¬ (g = 700 ∧ i = 27) → sr Z g i = sr T g i := fun g i a => by rw [hZ, hB]; exact srA g i a
  refine ⟨Z, ?_, ?_, ⟨?_, ?_, ?_, ?_⟩, fun u hu => ?_, ⟨?_, ?_, ?_⟩, ⟨?_, ?_⟩, fun i hi => ?_, srZ, ?_, ?_⟩
  · unfold f_X8_startWith f_X7_allHolds f_X9_clear f_X2_clear
    simp only [lt_eq]
    have e611 : sr (ui (ui (ur T 700 27 (some r)) 701 27 0) 702 27 0) 611 r = some (r + 13) := by rw [sr_ui, sr_ui, sr_ur, if_neg (by omega)]; exact hr.r611_0
    have e401 : si (ui (ui (ur T 700 27 (some r)) 701 27 0) 702 27 0) 401 (r + 13) = nI k := by rw [si_ui, if_neg (by omega), si_ui, if_neg (by omega)]; exact hk
    rw [e611, ob_some, ob_some]
    simp only []
    rw [e401, (all_v k (by omega)).1, ← hA, srA 608 r (by omega), hr.r608_0, ob_some, srA 704 27 (by omega), hs.r704_0, ob_some, e_copyRow (l := 10) (by rw [lnA]; exact hr.l9) (by rw [lnA]; exact hs.l1) (by omega), ob_some, ← hB]
    have s710 : sr (ui B1 705 27 0) 710 27 = some 33 := by rw [sr_ui, hB]; show sr A 710 27 = _; rw [srA 710 27 (by omega)]; exact hs.r710_0
    rw [s710, ob_some, ob_some]
    have s711 : sr (ui (ui (ui (ui B1 705 27 0) 800 33 0) 801 33 0) 802 33 0) 711 27 = some 40 := by rw [sr_ui, sr_ui, sr_ui, sr_ui, hB]; show sr A 711 27 = _; rw [srA 711 27 (by omega)]; exact hs.r711_0
    rw [s711, ob_some, ob_some, hZ]
  · rw [hZ, hB]
    show sr A 700 27 = _
    rw [hA, sr_ui, sr_ui, sr_ui, sr_ur, if_pos ⟨rfl, rfl⟩]
  · rw [hZ]
    simp (disch := omega) only [si_ui, if_neg]
    rw [hB]
    show si A 701 27 = 0
    rw [hA]
    simp (disch := omega) only [si_ui, if_neg, true_and, if_true]
  · rw [hZ]
    simp (disch := omega) only [si_ui, if_neg]
    rw [hB]
    show si A 702 27 = 0
    rw [hA]
    simp (disch := omega) only [si_ui, if_neg, true_and, if_true]
  · rw [hZ]
    simp (disch := omega) only [si_ui, if_neg]
    rw [hB]
    show si A 703 27 = _
    rw [hA, si_ui, if_pos ⟨rfl, rfl⟩]
  · rw [hZ]
    simp (disch := omega) only [si_ui, if_neg, true_and, if_true]
  · rw [hZ]
    show ai B1 28 u = _
    rw [hB, ai_sai, if_pos rfl, aiA]
    unfold cpF
    rw [if_pos hu]
  · rw [hZ]
    simp (disch := omega) only [si_ui, if_neg, true_and, if_true]
  · rw [hZ]
    simp (disch := omega) only [si_ui, if_neg, true_and, if_true]
  · rw [hZ]
    simp (disch := omega) only [si_ui, if_neg, true_and, if_true]
  · rw [hZ]
    simp (disch := omega) only [si_ui, if_neg, true_and, if_true]
  · rw [hZ, si_ui, if_pos ⟨rfl, rfl⟩]
  · rw [hZ, hB, hA]
    exact ((((((((((SameO.ur _ (by omega)).tr (SameO.ui _ (by omega))).tr (SameO.ui _ (by omega))).tr (SameO.ui _ (by omega))).tr (SameO.sai _ (by omega))).tr (SameO.ui _ (by omega))).tr (SameO.ui _ (by omega))).tr (SameO.ui _ (by omega))).tr (SameO.ui _ (by omega))).tr (SameO.ui _ (by omega))).tr (SameO.ui _ (by omega))
  · rw [hZ, hB, hA]; rfl
  · rw [hZ, hB, hA]; rfl
/-- a spool without messages -/
theorem Cl_fresh (h7 : sr T 700 27 = some r) (hr : dyn n r 19) (cr : CR T r N) (cn : cnD N) (w : wC N ∧ wU N ∧ wG N ∧ wH N) (z : Zd N) (i7 : si T 701 27 = 0 ∧ si T 702 27 = 0 ∧ si T 703 27 = nI (2 ^ kN N 6 - 1) ∧ si T 705 27 = 0) (q : ∀ u, u < kN N 4 → ai T 28 u = N (84 + 8 * u))
    (i8 : si T 800 33 = 0 ∧ si T 801 33 = 0 ∧ si T 802 33 = 0) (i2 : si T 203 40 = 0 ∧ si T 204 40 = 0) : Cl T n 27 N B := by
  obtain ⟨⟨z0, z1, z1p⟩, ⟨z2, z3, z4⟩, z5⟩ := z
  obtain ⟨c3, c4, c5, c6⟩ := cn
  have b6 := c6.2
  have k0 : ∀ k, N k = 0 → kN N k = 0 := fun k a => by unfold kN; rw [a]; rfl
  have cz : ∀ k b, N k = 0 → isCnt N k b := fun k b a => ⟨by rw [k0 k a, a]; rfl, by rw [k0 k a]; omega⟩
  have n7 := z3 7 (by omega) (by omega)
  have n8 := z3 8 (by omega) (by omega)
  have n9 := z3 9 (by omega) (by omega)
  have n10 := z3 10 (by omega) (by omega)
  have cnt0 : ∀ P : Nat → Prop, cntP P (kN N 8) = 0 := fun P => by rw [k0 8 n8]; rfl
  refine ⟨⟨⟨z0, z1, z1p, cz 2 _ z2⟩, ⟨c3, c4, c5, c6, cz 7 _ n7, cz 8 _ n8, cz 9 _ n9, by rw [k0 8 n8]; omega⟩, w.1, w.2.1, w.2.2.1, w.2.2.2, fun m hm => ?_, fun m u hm => ?_, fun p hp => ?_⟩, ⟨r, h7, Or.inr hr, cr⟩, ⟨i7.1.trans z2.symm, i7.2.1.trans n10.symm, i7.2.2.2.trans n7.symm⟩, ⟨2 ^ kN N 6 - 1, i7.2.2.1, (all_v _ (by omega)).2, fun h hh => ?_⟩, q, fun m hm => ?_, fun m u hm => ?_, ⟨⟨i8.1.trans n8.symm, ?_, ?_⟩, fun p hp => ?_⟩, ⟨i2.2.trans n9.symm, 0, by omega, i2.1, fun k hk => ?_⟩, Or.inr ?_⟩
  · rw [k0 7 n7] at hm; omega
  · rw [k0 7 n7] at hm; omega
  · rw [k0 8 n8] at hp; omega
  · rw [all_b _ (by omega) h hh]
    exact ⟨fun a => ⟨a, z5 h a⟩, fun a => a.1⟩
  · rw [k0 7 n7] at hm; omega
  · rw [k0 7 n7] at hm; omega
  · rw [cnt0]; exact i8.2.1
  · rw [cnt0]; exact i8.2.2
  · rw [k0 8 n8] at hp; omega
  · rw [k0 9 n9] at hk; omega
  · rw [k0 2 z2]; omega
/-- the draft becomes the net -/
def is8 (i : Nat) : Prop := i = 198
end Fs
