/-! the class drops a message's parts, one after another -/
/-- the parts before x are dropped: from T0 to T -/
def DrI (T0 T : St) (p m c0 : Nat) (N : Nat → Int32) (P : Nat → Prop) (x : Nat) : Prop :=
  (∀ i, ¬ i = p + 6 → ¬ i = p + 9 → ¬ i = p + 10 → ¬ (p + 13 ≤ i ∧ i ≤ p + 16) → SameO T0 T i) ∧ (∀ f i, sr T f i = sr T0 f i) ∧ ln T = ln T0 ∧
  (si T 800 (p + 6) = si T0 800 (p + 6) ∧ si T 801 (p + 6) = si T0 801 (p + 6) ∧ si T 802 (p + 6) = nI (c0 + cntP P x)) ∧
  (∀ q, q < 480 → ai T (p + 9) q = pif (hasN N m q ∧ q < x) (ai T0 (p + 9) q - 1) (ai T0 (p + 9) q)) ∧
  (∀ q, q < 480 → ai T (p + 10) q = pif (P q ∧ q < x) (N 2) (ai T0 (p + 10) q)) ∧ CJ T p (buryN lgN P x N)
section Dq
variable {F : Nat} {T0 : St} {n p m j c0 : Nat} {N B : Nat → Int32} {P : Nat → Prop}
theorem DrI.skip {T : St} {x y : Nat} (h : DrI T0 T p m c0 N P x) (hxy : x ≤ y) (hP : ∀ q, P q → hasN N m q) (hn : ∀ q, x ≤ q → q < y → ¬ hasN N m q) : DrI T0 T p m c0 N P y := by
  obtain ⟨d, rfl⟩ : ∃ d, y = x + d := ⟨y - x, by omega⟩
  obtain ⟨h1, h2, h3, h4, h5, h6, h7⟩ := h
  have nP : ∀ q, x ≤ q → q < x + d → ¬ P q := fun q a b z => hn q a b (hP q z)
  refine ⟨h1, h2, h3, by rw [cntP_skip d nP]; exact h4, fun q hq => (h5 q hq).trans (pif_c ⟨fun z => ⟨z.1, by omega⟩, fun z => ⟨z.1, ?_⟩⟩), fun q hq => (h6 q hq).trans (pif_c ⟨fun z => ⟨z.1, by omega⟩, fun z => ⟨z.1, ?_⟩⟩), by rw [buryN_skip d nP]; exact h7⟩
  · rcases Nat.lt_or_ge q x with a | a
    · exact a
    · exact absurd z.1 (hn q a z.2)
  · rcases Nat.lt_or_ge q x with a | a
    · exact a
    · exact absurd z.1 (nP q a z.2)
/-- one part -/
theorem DrI.step {T : St} {x k : Nat} (h : DrI T0 T p m c0 N P x) (hs : SpF T0 p) (w : WB N B) (s701 : si T0 701 p = N 2) (hx : x < kN N 8) (hh : hasN N m x) (hk : k < 1000) (ha : ai T0 (p + 9) x = nI (k + 1)) (hP : P x ↔ k = 0) (c480 : c0 + 480 < 2 ^ 31) {β : Type} (G : St → Option β) :
    ∃ T', DrI T0 T' p m c0 N P (x + 1) ∧ (Option.bind (sr T 710 p) fun j13 =>
    Option.bind (f_X9_dropKeeper F T j13 (nI x) (si T 701 p)) fun z14 => lt z14.1 fun r16 => lt z14.2 fun S15 =>
    if r16 = 0 then G S15
    else
    (Option.bind (sr S15 711 p) fun j19 =>
    Option.bind (f_X2_note F S15 j19 (si S15 701 p) ((6 : Int32)) (nI x)) fun S21 => G S21)) = G T' := by
  have b8 := w.n8.2
  obtain ⟨h1, h2, h3, h4, h5, h6, h7⟩ := h
  have hsT : SpF T p := hs.frm h2 h3
  have aT : ai T (p + 9) x = nI (k + 1) := by rw [h5 x (by omega), pif_f (fun z => by omega)]; exact ha
  have sT : si T 701 p = N 2 := by rw [(h1 p (by omega) (by omega) (by omega) (by omega)).1]; exact s701
  have cl := cntP_le P x
  obtain ⟨q1, q2, q3, q4⟩ := buryN_de (L := lgN) (P := P) (N := N) (B := B) isLg_lg x (by omega)
  have keep : ∀ (T' : St), (∀ q, ai T' (p + 9) q = if q = x then nI k else ai T (p + 9) q) → ∀ q, q < 480 → ai T' (p + 9) q = pif (hasN N m q ∧ q < x + 1) (ai T0 (p + 9) q - 1) (ai T0 (p + 9) q) := by
    intro T' e q hq
    rw [e]
    by_cases z : q = x
    · subst z
      rw [if_pos rfl, pif_t ⟨hh, by omega⟩, ha, show (1 : Int32) = nI 1 from rfl, nI_sub (by omega)]
      rfl
    · rw [if_neg z]
      exact (h5 q hq).trans (pif_c ⟨fun g => ⟨g.1, by omega⟩, fun g => ⟨g.1, by omega⟩⟩)
  rw [hsT.r710_0, ob_some, e_drop hsT (by omega) hk aT, ob_some]
  simp only [lt_eq]
  by_cases z : k = 0
  · have hp : P x := hP.mpr z
    rw [if_pos z, if_pos z, if_neg (by decide)]
    obtain ⟨T1, hT1⟩ : ∃ T1, T1 = ui (uai (uai T (p + 9) x (nI k)) (p + 10) x (si T 701 p)) 802 (p + 6) (si T 802 (p + 6) + 1) := ⟨_, rfl⟩
    rw [← hT1]
    have O1 : ∀ i, ¬ i = p + 6 → ¬ i = p + 9 → ¬ i = p + 10 → SameO T T1 i := fun i a b c => by rw [hT1]; exact ((SameO.uai _ b).tr (SameO.uai _ c)).tr (SameO.ui _ a)
    have r1 : ∀ f i, sr T1 f i = sr T f i := fun f i => by rw [hT1]; rfl
    have l1 : ln T1 = ln T := by rw [hT1]; rfl
    have hs1 : SpF T1 p := hsT.frm r1 l1
    obtain ⟨M, hM⟩ : ∃ M, M = upd (buryN lgN P x N) (4773 + 3 * x) (buryN lgN P x N 2) := ⟨_, rfl⟩
    have m1 : ∀ i, ¬ i = 4773 + 3 * x → M i = buryN lgN P x N i := fun i hi => by rw [hM]; exact upd_n hi
    have b9 := q3 w.n9
    have m9 : isCnt M 9 60 := by unfold isCnt kN at *; rw [m1 9 (by omega)]; exact b9
    have cj1 : CJ T1 p M := (h7.agr (fun i i1 i2 => O1 i (by omega) (by omega) (by omega))).x (m1 9 (by omega)) (fun i _ _ => m1 i (by omega)) b9.2
    obtain ⟨T2, t1, t2, t3, t4, t5⟩ := e_note (F := F) hs1 cj1 m9 6 (nI x)
    have e2 : M 2 = N 2 := by rw [m1 2 (by omega)]; exact q1 2 (by omega) (by omega) (by unfold xD; omega)
    have s1 : si T1 701 p = N 2 := by rw [(O1 p (by omega) (by omega) (by omega)).1]; exact sT
    rw [hs1.r711_0, ob_some, s1, ← e2, t1, ob_some]
    refine ⟨T2, ⟨fun i a b c d => ((h1 i a b c d).tr (O1 i a b c)).tr (t3 i (by omega) (by omega) (by omega) (by omega)), fun f i => ((t4 f i).trans (r1 f i)).trans (h2 f i), (t5.trans l1).trans h3, ?_, ?_, fun q hq => ?_, ?_⟩, rfl⟩
    · have P6 := t3 (p + 6) (by omega) (by omega) (by omega) (by omega)
      rw [P6.1, P6.1, P6.1, hT1, si_ui, if_neg (by omega), si_ui, if_neg (by omega), si_ui, if_pos ⟨rfl, rfl⟩]
      refine ⟨h4.1, h4.2.1, ?_⟩
      rw [h4.2.2, cntP_s, pif_t hp, nI_1]
      rfl
    · refine keep T2 (fun q => ?_)
      rw [(t3 (p + 9) (by omega) (by omega) (by omega) (by omega)).row, hT1, ai_ui, ai_uai, if_neg (by omega), ai_uai]
      by_cases y : q = x
      · rw [if_pos ⟨rfl, y⟩, if_pos y]
      · rw [if_neg (fun g => y g.2), if_neg y]
    · rw [(t3 (p + 10) (by omega) (by omega) (by omega) (by omega)).row, hT1, ai_ui, ai_uai]
      by_cases y : q = x
      · subst y
        rw [if_pos ⟨rfl, rfl⟩, pif_t ⟨hp, by omega⟩, sT]
      · rw [if_neg (fun g => y g.2), ai_uai, if_neg (by omega)]
        exact (h6 q hq).trans (pif_c ⟨fun g => ⟨g.1, by omega⟩, fun g => ⟨g.1, by omega⟩⟩)
    · rw [buryN_s, pif_t hp, ← hM]
      exact t2
  · have hp : ¬ P x := fun y => z (hP.mp y)
    rw [if_neg z, if_neg z, if_pos rfl]
    have O1 : ∀ i, ¬ i = p + 9 → SameO T (uai T (p + 9) x (nI k)) i := fun i a => SameO.uai _ a
    refine ⟨uai T (p + 9) x (nI k), ⟨fun i a b c d => (h1 i a b c d).tr (O1 i b), fun f i => h2 f i, h3, ?_, ?_, fun q hq => ?_, ?_⟩, rfl⟩
    · rw [cntP_s, pif_f hp]
      exact h4
    · refine keep _ (fun q => ?_)
      rw [ai_uai]
      by_cases y : q = x
      · rw [if_pos ⟨rfl, y⟩, if_pos y]
      · rw [if_neg (fun g => y g.2), if_neg y]
    · rw [(O1 (p + 10) (by omega)).row]
      refine (h6 q hq).trans (pif_c ⟨fun g => ⟨g.1, by omega⟩, fun g => ⟨g.1, ?_⟩⟩)
      rcases Nat.lt_or_ge q x with a | a
      · exact a
      · exact absurd g.1 (by rw [show q = x by omega]; exact hp)
    · rw [buryN_s, pif_f hp]
      exact h7.agr (fun i i1 i2 => O1 i (by omega))
/-- all of them -/
theorem e_dropParts (hs : SpF T0 p) (w : WB N B) (s701 : si T0 701 p = N 2) (hm : m < kN N 7) (h303 : sr T0 303 j = some (j + 1)) (hl : ln T0 (j + 1) = manyN N m) (hj : 212 ≤ j ∧ p + 20 < 212) (hja : ∀ i, i < manyN N m → ai T0 (j + 1) i = N (334 + 7 * m + i))
    (hk : ∀ q, hasN N m q → ∃ k, k < 1000 ∧ ai T0 (p + 9) q = nI (k + 1) ∧ (P q ↔ k = 0)) (hP : ∀ q, P q → hasN N m q) (c480 : c0 + 480 < 2 ^ 31) (h802 : si T0 802 (p + 6) = nI c0) (cj : CJ T0 p N) (hF : 1000 ≤ F) : ∃ T, f_X8_dropParts F T0 p j = some T ∧ DrI T0 T p m c0 N P (kN N 8) := by
  have b8 := w.n8.2
  obtain ⟨-, -, -, wm4, -, wm6⟩ := w.wM m hm
  have h4 := wm4.2
  have hc : ∀ i, i < manyN N m → N (334 + 7 * m + i) = nI (partN N m i) ∧ partN N m i < 480 := fun i hi => ⟨(wm6 i hi).1.1, by have := (wm6 i hi).2; omega⟩
  have h8 : ∀ q, hasN N m q → q < kN N 8 := fun q ⟨i, i1, i2⟩ => by rw [← i2]; exact (wm6 i i1).2
  have I0 : DrI T0 T0 p m c0 N P 0 := ⟨fun i _ _ _ _ => SameO.rf T0 i, fun _ _ => rfl, rfl, ⟨rfl, rfl, h802⟩, fun q _ => by rw [pif_f (by omega)], fun q _ => by rw [pif_f (by omega)], cj⟩
  have above : ∀ T x lo v, DrI T0 T p m c0 N P x → (∀ y, y < 480 → (nI y ≤ v ↔ y < lo)) → ∃ r, f_X4_partAbove F T j v = some (r, T) ∧ ((r = -1 ∧ ∀ y, hasN N m y → y < lo) ∨ (∃ y, r = nI y ∧ y < 480 ∧ lo ≤ y ∧ hasN N m y ∧ ∀ z, hasN N m z → lo ≤ z → y ≤ z)) := by
    intro T x lo v I hv
    refine e_above (by rw [I.2.1]; exact h303) (by rw [I.2.2.1]; exact hl) (fun i hi => ?_) h4 hc hv hF
    rw [(I.1 (j + 1) (by omega) (by omega) (by omega) (by omega)).row]
    exact hja i hi
  have stop : ∀ T fu v3, f_X8_dropParts_L8 F (fu + 1) T p j (-1) v3 = some T := by
    intro T fu v3
    unfold f_X8_dropParts_L8
    by_cases y : 4 ≤ v3
    · rw [if_pos y]
    · rw [if_neg y, if_pos rfl]
  have loop : ∀ e v3 fu T x, v3 + e = 4 → e < fu → DrI T0 T p m c0 N P x → hasN N m x → cntP (fun i => x ≤ partN N m i) (manyN N m) ≤ e → ∃ T', f_X8_dropParts_L8 F fu T p j (nI x) (nI v3) = some T' ∧ DrI T0 T' p m c0 N P (kN N 8) := by
    intro e
    induction e with
    | zero =>
      intro v3 fu T x _ _ _ hh hcnt
      obtain ⟨i, i1, i2⟩ := hh
      exact absurd (Nat.le_of_eq i2.symm) ((cntP_z (P := fun i => x ≤ partN N m i)).mp (by omega) i i1)
    | succ e ih =>
      intro v3 fu T x hv hfu I hh hcnt
      obtain ⟨fu, rfl⟩ : ∃ f', fu = f' + 1 := ⟨fu - 1, by omega⟩
      have hx8 := h8 x hh
      obtain ⟨k, k1, k2, k3⟩ := hk x hh
      obtain ⟨T1, I1, r1⟩ := I.step (F := F) hs w s701 hx8 hh k1 k2 k3 c480 (fun S => f_X8_dropParts_L47 F (fun a0 a1 a2 a3 a4 => f_X8_dropParts_L8 F fu a0 a1 a2 a3 a4) S p j (nI x) (nI v3))
      obtain ⟨r, a1, a2⟩ := above T1 (x + 1) (x + 1) (nI x) I1 (fun y hy => ⟨fun g => by have := (nI_leI (by omega) (by omega)).mp g; omega, fun g => nI_le (by omega) (by omega)⟩)
      have run : f_X8_dropParts_L8 F (fu + 1) T p j (nI x) (nI v3) = f_X8_dropParts_L8 F fu T1 p j r (nI (v3 + 1)) := by
        conv => lhs; unfold f_X8_dropParts_L8
        rw [if_neg (show ¬ (4 : Int32) ≤ nI v3 from nI_ge (a := v3) (b := 4) (by omega) (by omega)), if_neg (show ¬ nI x = -1 from fun z => nI_pos (n := x) (by omega) (by rw [z]; decide))]
        refine r1.trans ?_
        unfold f_X8_dropParts_L47
        rw [a1, ob_some, nI_1]
        rfl
      rw [run]
      rcases a2 with ⟨b1, b2⟩ | ⟨y, b1, b2, b3, b4, b5⟩
      · rw [b1]
        obtain ⟨fu, rfl⟩ : ∃ f', fu = f' + 1 := ⟨fu - 1, by omega⟩
        exact ⟨T1, stop T1 fu _, I1.skip (by omega) hP (fun q q1 q2 z => by have := b2 q z; omega)⟩
      · rw [b1]
        obtain ⟨i, i1, i2⟩ := hh
        refine ih (v3 + 1) fu T1 y (by omega) (by omega) (I1.skip b3 hP (fun q q1 q2 z => by have := b5 q z q1; omega)) b4 ?_
        have := cntP_lt (P := fun i => x ≤ partN N m i) (Q := fun i => y ≤ partN N m i) i1 (by rw [i2]; exact Nat.le_refl _) (by rw [i2]; omega) (fun k _ hk2 => by omega)
        omega
  obtain ⟨r, a1, a2⟩ := above T0 0 0 (-1) I0 (fun y hy => ⟨fun g => absurd g (fun z => by
    have : nI y < 0 := by
      rw [Int32.le_iff_toInt_le] at z
      rw [Int32.lt_iff_toInt_lt]
      have e1 : (-1 : Int32).toInt = -1 := by decide
      have e0 : (0 : Int32).toInt = 0 := by decide
      omega
    exact nI_pos (by omega) this), fun g => absurd g (by omega)⟩)
  unfold f_X8_dropParts
  rw [a1, ob_some]
  simp only [lt_eq]
  rcases a2 with ⟨b1, b2⟩ | ⟨y, b1, b2, b3, b4, b5⟩
  · rw [b1]
    obtain ⟨fu, rfl⟩ : ∃ f', F = f' + 1 := ⟨F - 1, by omega⟩
    exact ⟨T0, stop T0 fu _, I0.skip (by omega) hP (fun q q1 q2 z => by have := b2 q z; omega)⟩
  · rw [b1]
    exact loop 4 0 F T0 y (by omega) (by omega) (I0.skip (by omega) hP (fun q q1 q2 z => by have := b5 q z q1; omega)) b4 (Nat.le_trans (cntP_le _ _) h4)
end Dq
