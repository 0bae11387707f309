/-! a fresh spool: the class; what the model's load writes around the reading -/
section Fs
variable {F : Nat} {S T : St} {n r : Nat} {N B : Nat → Int32}
theorem all_v : ∀ k, k < 7 → (1 : Int32) <<< (nI k &&& 31) - 1 = nI (2 ^ k - 1) ∧ 2 ^ k - 1 < 64 := by decide +kernel
theorem all_b : ∀ k, k < 7 → ∀ h, h < 6 → ((2 ^ k - 1).testBit h = true ↔ h < k) := by decide +kernel
theorem e_start {k : Nat} (hs : SpF T 27) (hr : RuF T r) (hrr : 212 ≤ r) (hk : si T 401 (r + 13) = nI k) (hk6 : k ≤ 6) : ∃ T2, f_X8_startWith F T 27 r = some T2 ∧ sr T2 700 27 = some r ∧ (si T2 701 27 = 0 ∧ si T2 702 27 = 0 ∧ si T2 703 27 = nI (2 ^ k - 1) ∧ si T2 705 27 = 0) ∧ (∀ u, u < 10 → ai T2 28 u = ai T (r + 9) u) ∧
    (si T2 800 33 = 0 ∧ si T2 801 33 = 0 ∧ si T2 802 33 = 0) ∧ (si T2 203 40 = 0 ∧ si T2 204 40 = 0) ∧ (∀ i, ¬ (27 ≤ i ∧ i ≤ 40) → SameO T T2 i) ∧ (∀ g i, ¬ (g = 700 ∧ i = 27) → sr T2 g i = sr T g i) ∧ ln T2 = ln T ∧ ar T2 = ar T := by
  obtain ⟨A, hA⟩ : ∃ A, A = ui (ui (ui (ur T 700 27 (some r)) 701 27 0) 702 27 0) 703 27 (nI (2 ^ k - 1)) := ⟨_, rfl⟩
  obtain ⟨B1, hB⟩ : ∃ B1, B1 = sai A 28 (cpF (ai A (r + 9)) (ai A 28) 10) := ⟨_, rfl⟩
  obtain ⟨Z, hZ⟩ : ∃ Z, Z = ui (ui (ui (ui (ui (ui B1 705 27 0) 800 33 0) 801 33 0) 802 33 0) 203 40 0) 204 40 0 := ⟨_, rfl⟩
  have srA : ∀ g i, ¬ (g = 700 ∧ i = 27) → sr A g i = sr T g i := fun g i a => by rw [hA, sr_ui, sr_ui, sr_ui, sr_ur, if_neg a]
  have lnA : ln A = ln T := by rw [hA]; rfl
  have aiA : ai A = ai T := by rw [hA]; rfl
  have srZ : ∀ g i, ¬ (g = 700 ∧ i = 27) → sr Z g i = sr T g i := fun g i a => by rw [hZ, hB]; exact srA g i a
  refine ⟨Z, ?_, ?_, ⟨?_, ?_, ?_, ?_⟩, fun u hu => ?_, ⟨?_, ?_, ?_⟩, ⟨?_, ?_⟩, fun i hi => ?_, srZ, ?_, ?_⟩
  · unfold f_X8_startWith f_X7_allHolds f_X9_clear f_X2_clear
    simp only [lt_eq]
    have e611 : sr (ui (ui (ur T 700 27 (some r)) 701 27 0) 702 27 0) 611 r = some (r + 13) := by rw [sr_ui, sr_ui, sr_ur, if_neg (by omega)]; exact hr.r611_0
    have e401 : si (ui (ui (ur T 700 27 (some r)) 701 27 0) 702 27 0) 401 (r + 13) = nI k := by rw [si_ui, if_neg (by omega), si_ui, if_neg (by omega)]; exact hk
    rw [e611, ob_some, ob_some]
    simp only []
    rw [e401, (all_v k (by omega)).1, ← hA, srA 608 r (by omega), hr.r608_0, ob_some, srA 704 27 (by omega), hs.r704_0, ob_some, e_copyRow (l := 10) (by rw [lnA]; exact hr.l9) (by rw [lnA]; exact hs.l1) (by omega), ob_some, ← hB]
    have s710 : sr (ui B1 705 27 0) 710 27 = some 33 := by rw [sr_ui, hB]; show sr A 710 27 = _; rw [srA 710 27 (by omega)]; exact hs.r710_0
    rw [s710, ob_some, ob_some]
    have s711 : sr (ui (ui (ui (ui B1 705 27 0) 800 33 0) 801 33 0) 802 33 0) 711 27 = some 40 := by rw [sr_ui, sr_ui, sr_ui, sr_ui, hB]; show sr A 711 27 = _; rw [srA 711 27 (by omega)]; exact hs.r711_0
    rw [s711, ob_some, ob_some, hZ]
  · rw [hZ, hB]
    show sr A 700 27 = _
    rw [hA, sr_ui, sr_ui, sr_ui, sr_ur, if_pos ⟨rfl, rfl⟩]
  · rw [hZ]
    simp (disch := omega) only [si_ui, if_neg]
    rw [hB]
    show si A 701 27 = 0
    rw [hA]
    simp (disch := omega) only [si_ui, if_neg, true_and, if_true]
  · rw [hZ]
    simp (disch := omega) only [si_ui, if_neg]
    rw [hB]
    show si A 702 27 = 0
    rw [hA]
    simp (disch := omega) only [si_ui, if_neg, true_and, if_true]
  · rw [hZ]
    simp (disch := omega) only [si_ui, if_neg]
    rw [hB]
    show si A 703 27 = _
    rw [hA, si_ui, if_pos ⟨rfl, rfl⟩]
  · rw [hZ]
    simp (disch := omega) only [si_ui, if_neg, true_and, if_true]
  · rw [hZ]
    show ai B1 28 u = _
    rw [hB, ai_sai, if_pos rfl, aiA]
    unfold cpF
    rw [if_pos hu]
  · rw [hZ]
    simp (disch := omega) only [si_ui, if_neg, true_and, if_true]
  · rw [hZ]
    simp (disch := omega) only [si_ui, if_neg, true_and, if_true]
  · rw [hZ]
    simp (disch := omega) only [si_ui, if_neg, true_and, if_true]
  · rw [hZ]
    simp (disch := omega) only [si_ui, if_neg, true_and, if_true]
  · rw [hZ, si_ui, if_pos ⟨rfl, rfl⟩]
  · rw [hZ, hB, hA]
    exact ((((((((((SameO.ur _ (by omega)).tr (SameO.ui _ (by omega))).tr (SameO.ui _ (by omega))).tr (SameO.ui _ (by omega))).tr (SameO.sai _ (by omega))).tr (SameO.ui _ (by omega))).tr (SameO.ui _ (by omega))).tr (SameO.ui _ (by omega))).tr (SameO.ui _ (by omega))).tr (SameO.ui _ (by omega))).tr (SameO.ui _ (by omega))
  · rw [hZ, hB, hA]; rfl
  · rw [hZ, hB, hA]; rfl
/-- a spool without messages -/
theorem Cl_fresh (h7 : sr T 700 27 = some r) (hr : dyn n r 19) (cr : CR T r N) (cn : cnD N) (w : wC N ∧ wU N ∧ wG N ∧ wH N) (z : Zd N) (i7 : si T 701 27 = 0 ∧ si T 702 27 = 0 ∧ si T 703 27 = nI (2 ^ kN N 6 - 1) ∧ si T 705 27 = 0) (q : ∀ u, u < kN N 4 → ai T 28 u = N (84 + 8 * u))
    (i8 : si T 800 33 = 0 ∧ si T 801 33 = 0 ∧ si T 802 33 = 0) (i2 : si T 203 40 = 0 ∧ si T 204 40 = 0) : Cl T n 27 N B := by
  obtain ⟨⟨z0, z1, z1p⟩, ⟨z2, z3, z4⟩, z5⟩ := z
  obtain ⟨c3, c4, c5, c6⟩ := cn
  have b6 := c6.2
  have k0 : ∀ k, N k = 0 → kN N k = 0 := fun k a => by unfold kN; rw [a]; rfl
  have cz : ∀ k b, N k = 0 → isCnt N k b := fun k b a => ⟨by rw [k0 k a, a]; rfl, by rw [k0 k a]; omega⟩
  have n7 := z3 7 (by omega) (by omega)
  have n8 := z3 8 (by omega) (by omega)
  have n9 := z3 9 (by omega) (by omega)
  have n10 := z3 10 (by omega) (by omega)
  have cnt0 : ∀ P : Nat → Prop, cntP P (kN N 8) = 0 := fun P => by rw [k0 8 n8]; rfl
  refine ⟨⟨⟨z0, z1, z1p, cz 2 _ z2⟩, ⟨c3, c4, c5, c6, cz 7 _ n7, cz 8 _ n8, cz 9 _ n9, by rw [k0 8 n8]; omega⟩, w.1, w.2.1, w.2.2.1, w.2.2.2, fun m hm => ?_, fun m u hm => ?_, fun p hp => ?_⟩, ⟨r, h7, Or.inr hr, cr⟩, ⟨i7.1.trans z2.symm, i7.2.1.trans n10.symm, i7.2.2.2.trans n7.symm⟩, ⟨2 ^ kN N 6 - 1, i7.2.2.1, (all_v _ (by omega)).2, fun h hh => ?_⟩, q, fun m hm => ?_, fun m u hm => ?_, ⟨⟨i8.1.trans n8.symm, ?_, ?_⟩, fun p hp => ?_⟩, ⟨i2.2.trans n9.symm, 0, by omega, i2.1, fun k hk => ?_⟩, Or.inr ?_⟩
  · rw [k0 7 n7] at hm; omega
  · rw [k0 7 n7] at hm; omega
  · rw [k0 8 n8] at hp; omega
  · rw [all_b _ (by omega) h hh]
    exact ⟨fun a => ⟨a, z5 h a⟩, fun a => a.1⟩
  · rw [k0 7 n7] at hm; omega
  · rw [k0 7 n7] at hm; omega
  · rw [cnt0]; exact i8.2.1
  · rw [cnt0]; exact i8.2.2
  · rw [k0 8 n8] at hp; omega
  · rw [k0 9 n9] at hk; omega
  · rw [k0 2 z2]; omega
/-- what the model's load writes -/
def ML (S T : St) : Prop := (∀ g i, ¬ (g = 1004 ∧ i = 197) → sr T g i = sr S g i) ∧ (∀ g i, ¬ i = 197 → si T g i = si S g i) ∧ (∀ g, g = 1005 ∨ g = 1026 ∨ g = 1027 ∨ g = 1029 → si T g 197 = si S g 197) ∧ (∀ i, ¬ i = 199 → ai T i = ai S i) ∧ al T = al S ∧ ar T = ar S ∧ ln T = ln S ∧ si T 1007 197 = 0
theorem ML.e {U : St} (h : ML S T) (m : Mf scE is199 T U) : ML S U := ⟨fun g i a => (m.1 g i).trans (h.1 g i a), fun g i a => (m.2.1 g i (fun z => a z.1)).trans (h.2.1 g i a), fun g a => (m.2.1 g 197 (fun z => by have := z.2; unfold scE at this; omega)).trans (h.2.2.1 g a), fun i a => (m.2.2.1 i a).trans (h.2.2.2.1 i a), m.2.2.2.1.trans h.2.2.2.2.1, m.2.2.2.2.1.trans h.2.2.2.2.2.1, m.2.2.2.2.2.trans h.2.2.2.2.2.2.1, (m.2.1 1007 197 (fun z => by have := z.2; unfold scE at this; omega)).trans h.2.2.2.2.2.2.2⟩
theorem ML.wr (h : ML S T) (v : Option Nat) : ML S (ur T 1004 197 v) := ⟨fun g i a => by rw [sr_ur, if_neg a]; exact h.1 g i a, h.2⟩
theorem FxF.r4 (x : FxF S) (v : Option Nat) : FxF (ur S 1004 197 v) := by
  obtain ⟨h1, h2, h3, h4⟩ := x
  have n1 : ∀ q ∈ fxR, ¬ q.1 = 1004 := by decide
  have n2 : ∀ q ∈ spR, ¬ q.1 = 1004 := by decide
  exact ⟨fun q hq => by rw [sr_ur, if_neg (fun z => n1 q hq z.1)]; exact h1 q hq, h2, fun p hp => ⟨fun q hq => by rw [sr_ur, if_neg (fun z => n2 q hq z.1)]; exact (h3 p hp).1 q hq, (h3 p hp).2⟩, h4⟩
theorem m_load {f : Nat → Int32} {K : Nat} (hx : FxF S) (k1 : K ≤ 1200) (k3 : si S 1007 197 = nI K) (hf : ∀ i, i < K → ai S 201 i = f i ∧ (f i).toInt8.toInt32 = f i) (hF : 10000 ≤ F) :
    ∃ M0, f_X11_load F S 197 = (Option.bind (f_X11_scan F M0 197) fun S73 => sp1 F S73) ∧ FxF M0 ∧ InM M0 f K ∧ si M0 1009 197 = 0 ∧ si M0 1013 197 = 0 ∧ si M0 1014 197 = -1 ∧ sr M0 1004 197 = some 199 ∧ (∀ x, x < 6391 → ai M0 199 x = 0) ∧ ML S M0 := by
  obtain ⟨A, hA⟩ : ∃ A, A = ui (ui (ui (ui (ui (ui S 1000 197 0) 1008 197 (nI K)) 1007 197 0) 1009 197 0) 1013 197 0) 1014 197 (-1) := ⟨_, rfl⟩
  have hxA : FxF A := by rw [hA]; exact hx.agr (fun _ _ _ _ => rfl) (fun _ _ => rfl) rfl
  have sA : ∀ g, ¬ g = 1000 → ¬ g = 1008 → ¬ g = 1007 → ¬ g = 1009 → ¬ g = 1013 → ¬ g = 1014 → si A g 197 = si S g 197 := fun g a b c d e h => by
    rw [hA, si_ui, if_neg (by omega), si_ui, if_neg (by omega), si_ui, if_neg (by omega), si_ui, if_neg (by omega), si_ui, if_neg (by omega), si_ui, if_neg (by omega)]
  obtain ⟨T, t1, t2, t3, -⟩ := m_clear (F := F) 6391 0 F A (by omega) (by omega) hxA
  have sT : ∀ g i, si T g i = si A g i := fun g i => t2.si g i
  refine ⟨ur T 1004 197 (some 199), ?_, (t2.fx hxA).r4 _, ⟨k1, ?_, fun i hi => ?_⟩, ?_, ?_, ?_, ?_, fun x hx => t3 x (by omega) hx, ML.wr ⟨fun g i a => ?_, fun g i a => ?_, fun g a => ?_, fun i a => ?_, ?_, ?_, ?_, ?_⟩ _⟩
  · unfold f_X11_load
    simp only [lt_eq]
    have e7 : si (ui S 1000 197 0) 1007 197 = nI K := by rw [si_ui, if_neg (by omega)]; exact k3
    rw [e7, ← hA]
    exact t1
  · rw [si_ur, sT, hA]
    simp (disch := omega) only [si_ui, if_neg, true_and, if_true]
  · show ai T 201 i = _ ∧ _
    rw [t2.2.2.1 201 (fun z => by unfold is199 at z; omega), hA]
    exact hf i hi
  · rw [si_ur, sT, hA]
    simp (disch := omega) only [si_ui, if_neg, true_and, if_true]
  · rw [si_ur, sT, hA]
    simp (disch := omega) only [si_ui, if_neg, true_and, if_true]
  · rw [si_ur, sT, hA, si_ui, if_pos ⟨rfl, rfl⟩]
  · rw [sr_ur, if_pos ⟨rfl, rfl⟩]
  · rw [t2.1, hA] <;> rfl
  · rw [sT, hA]
    simp (disch := omega) only [si_ui, if_neg]
  · rw [sT]; exact sA g (by omega) (by omega) (by omega) (by omega) (by omega) (by omega)
  · rw [t2.2.2.1 i (fun z => by unfold is199 at z; omega), hA]; rfl
  · rw [t2.2.2.2.1, hA]; rfl
  · rw [t2.2.2.2.2.1, hA]; rfl
  · rw [t2.2.2.2.2.2, hA]; rfl
  · rw [sT, hA]
    simp (disch := omega) only [si_ui, if_neg, true_and, if_true]
/-- the draft becomes the net -/
def is8 (i : Nat) : Prop := i = 198
theorem m_take8 : ∀ d k fu S, k + d = 6391 → d < fu → FxF S → ∃ T, f_X11_load_L166 F fu S 197 (nI k) = some (ai T 198 4, T) ∧ Mf noF is8 S T ∧ (∀ x, k ≤ x → x < 6391 → ai T 198 x = ai S 199 x) ∧ ∀ x, x < k → ai T 198 x = ai S 198 x := by
  intro d
  induction d with
  | zero =>
    intro k fu S hk hfu hx
    obtain ⟨fu, rfl⟩ : ∃ f', fu = f' + 1 := ⟨fu - 1, by omega⟩
    obtain rfl : k = 6391 := by omega
    refine ⟨S, ?_, Mf.rf S, fun x a b => by omega, fun _ _ => rfl⟩
    unfold f_X11_load_L166
    rw [if_pos (show (6391 : Int32) ≤ nI 6391 by decide), hx.r1001_197, ob_some, hx.l198, cL4 (by omega) (by omega), kL4]
  | succ d ih =>
    intro k fu S hk hfu hx
    obtain ⟨fu, rfl⟩ : ∃ f', fu = f' + 1 := ⟨fu - 1, by omega⟩
    obtain ⟨S1, hS1⟩ : ∃ S1, S1 = uai S 198 k (ai S 199 k) := ⟨_, rfl⟩
    have d1 : Mf noF is8 S S1 := by rw [hS1]; exact Mf.uai _ rfl
    obtain ⟨T, t1, t2, t3, t4⟩ := ih (k + 1) fu S1 (by omega) (by omega) (d1.fx hx)
    refine ⟨T, ?_, d1.tr t2, fun x a b => ?_, fun x a => ?_⟩
    · unfold f_X11_load_L166
      rw [if_neg (show ¬ (6391 : Int32) ≤ nI k from nI_ge (b := 6391) (by omega) (by omega)), hx.r1001_197, ob_some, hx.r1002_197, ob_some, hx.l199, cki_nI (by omega) (by omega), hx.l198, cki_nI (by omega) (by omega), nI_clamp (by omega)]
      simp only [lt_eq]
      rw [nI_1, ← hS1]
      exact t1
    · by_cases y : x = k
      · rw [y, t4 k (by omega), hS1, ai_uaiE, upd_e]
      · rw [t3 x (by omega) b, hS1, ai_uaiN _ (by omega)]
    · rw [t4 x (by omega), hS1, ai_uaiE, upd_n (by omega)]
end Fs
