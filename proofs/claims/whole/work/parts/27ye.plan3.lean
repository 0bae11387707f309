/-! the class plans for one user -/
section Po
variable {F : Nat} {S : St} {n p u : Nat} {N B : Nat → Int32}
theorem plV_le (w : WB N B) {m : Nat} (hm : m < kN N 7) (hu : u < kN N 4) : plV N m u ≤ bigD := by
  unfold plV
  by_cases z : stN N m u = 0
  · rw [if_pos z]; exact dueV_le w hm hu
  · rw [if_neg z]; exact Nat.le_refl _
def lvC (N : Nat → Int32) (u k c m' : Nat) : Prop := k ≤ m' ∧ stN N m' u = 0 ∧ clN N m' u = nI c
theorem e_planOf (g : Cl S n p N B) (hp : 27 ≤ p ∧ p + 20 < 212) (hs : SpF S p) (hu : u < kN N 4) {w0 : Nat} (hw : si S 713 p = nI w0) (hw0 : w0 ≤ bigD) (hF : 1000 ≤ F) :
    ∃ T w, f_X8_planLeavingOf F S p (nI u) = some T ∧ PlF S T p ∧ (∀ m, m < kN N 7 → ai T (p + 17) (10 * m + u) = nI (plV N m u)) ∧ (∀ j, ¬ j % 10 = u → ai T (p + 17) j = ai S (p + 17) j) ∧ si T 713 p = nI w ∧ w ≤ w0 ∧ ∀ m, m < kN N 7 → w ≤ plV N m u := by
  have wb := g.c0.wb
  have b3 := wb.n3.2
  have b4 := wb.n4.2
  have b7 := wb.n7.2
  obtain ⟨T0, f1, f2, f3, f4, f5⟩ := e_fill8 (F := F) hs hF
  have loop : ∀ k fu T w, k ≤ kN N 7 → k < fu → PlF S T p → (∀ c, c < 8 → ai T (p + 18) c = nI (cntP (lvC N u k c) (kN N 7))) → (∀ m, k ≤ m → m < kN N 7 → ai T (p + 17) (10 * m + u) = nI (plV N m u)) → (∀ j, ¬ j % 10 = u → ai T (p + 17) j = ai S (p + 17) j) → si T 713 p = nI w → w ≤ w0 → (∀ m, k ≤ m → m < kN N 7 → w ≤ plV N m u) →
      ∃ T' w', f_X8_planLeavingOf_L15 F fu T p (nI u) (nI k - 1) = some T' ∧ PlF S T' p ∧ (∀ m, m < kN N 7 → ai T' (p + 17) (10 * m + u) = nI (plV N m u)) ∧ (∀ j, ¬ j % 10 = u → ai T' (p + 17) j = ai S (p + 17) j) ∧ si T' 713 p = nI w' ∧ w' ≤ w0 ∧ ∀ m, m < kN N 7 → w' ≤ plV N m u := by
    intro k
    induction k with
    | zero =>
      intro fu T w hk hfu m1 m2 m3 m4 m5 m6 m7
      obtain ⟨fu, rfl⟩ : ∃ f', fu = f' + 1 := ⟨fu - 1, by omega⟩
      refine ⟨T, w, ?_, m1, fun m h => m3 m (Nat.zero_le _) h, m4, m5, m6, fun m h => m7 m (Nat.zero_le _) h⟩
      unfold f_X8_planLeavingOf_L15
      rw [show nI 0 - 1 = (-1 : Int32) by decide, if_pos (by decide)]
    | succ k ih =>
      intro fu T w hk hfu m1 m2 m3 m4 m5 m6 m7
      obtain ⟨fu, rfl⟩ : ∃ f', fu = f' + 1 := ⟨fu - 1, by omega⟩
      have gT := g.soft hp m1
      have C := gT.c0
      have hsT : SpF T p := hs.frm m1.2.2.1 m1.2.2.2.1
      have l17 := hsT.l17
      have l18 := hsT.l18
      have e1 : nI (k + 1) - 1 = nI k := by rw [show (1 : Int32) = nI 1 from rfl, nI_sub (by omega)]; rfl
      have pv := plV_le wb (m := k) (by omega) hu
      -- the rest, once the value is known
      have fin : ∀ V, PlF T V p → (∀ c, c < 8 → ai V (p + 18) c = nI (cntP (lvC N u k c) (kN N 7))) → ai V (p + 17) = ai T (p + 17) → si V 713 p = si T 713 p →
          ∃ T' w', f_X8_planLeavingOf_L75 F (fun a0 a1 a2 a3 => f_X8_planLeavingOf_L15 F fu a0 a1 a2 a3) V p (nI u) (nI k) (nI (plV N k u)) = some T' ∧ PlF S T' p ∧ (∀ m, m < kN N 7 → ai T' (p + 17) (10 * m + u) = nI (plV N m u)) ∧ (∀ j, ¬ j % 10 = u → ai T' (p + 17) j = ai S (p + 17) j) ∧ si T' 713 p = nI w' ∧ w' ≤ w0 ∧ ∀ m, m < kN N 7 → w' ≤ plV N m u := by
        intro V v1 v2 v3 v4
        have hsV : SpF V p := hsT.frm v1.2.2.1 v1.2.2.2.1
        have l17V := hsV.l17
        obtain ⟨w', hw', lw, lp⟩ : ∃ w', w' = (if plV N k u < w then plV N k u else w) ∧ w' ≤ w ∧ w' ≤ plV N k u := ⟨_, rfl, by split <;> omega, by split <;> omega⟩
        obtain ⟨V1, hV1⟩ : ∃ V1, V1 = uai V (p + 17) (10 * k + u) (nI (plV N k u)) := ⟨_, rfl⟩
        have F1 : PlF V V1 p := by rw [hV1]; exact PlF.uai _ (Or.inl rfl)
        obtain ⟨V2, hV2⟩ : ∃ V2, V2 = ui V1 713 p (nI w') := ⟨_, rfl⟩
        have F2 : PlF V1 V2 p := by rw [hV2]; exact PlF.ui _
        have r17 : ∀ j, ai V2 (p + 17) j = if j = 10 * k + u then nI (plV N k u) else ai T (p + 17) j := fun j => by
          rw [hV2, ai_ui, hV1, ai_uai, v3]
          by_cases z : j = 10 * k + u
          · rw [if_pos ⟨rfl, z⟩, if_pos z]
          · rw [if_neg (fun y => z y.2), if_neg z]
        obtain ⟨T', w2, t1, t2⟩ := ih fu V2 w' (by omega) (by omega) (((m1.tr v1).tr F1).tr F2) (fun c hc => by rw [hV2, ai_ui, hV1, ai_uai, if_neg (by omega)]; exact v2 c hc) (fun m h1 h2 => by
          rw [r17]
          by_cases z : m = k
          · rw [if_pos (by rw [z]), z]
          · rw [if_neg (by omega)]; exact m3 m (by omega) h2) (fun j hj => by rw [r17, if_neg (by omega)]; exact m4 j hj) (by rw [hV2, si_ui, if_pos ⟨rfl, rfl⟩]) (by omega) (fun m h1 h2 => by
          by_cases z : m = k
          · rw [z]; exact lp
          · have := m7 m (by omega) h2; omega)
        refine ⟨T', w2, ?_, t2⟩
        rw [← t1]
        have s1 : si V1 713 p = nI w := by rw [hV1, si_uai, v4]; exact m5
        have big : bigD < 2 ^ 31 := by unfold bigD; omega
        have wl : w < 2 ^ 31 := by omega
        unfold f_X8_planLeavingOf_L75
        rw [hsV.r712_0, ob_some, show (10 : Int32) = nI 10 from rfl, nI_mul, nI_add, show k * 10 + u = 10 * k + u by omega, e_put _ (by omega) (by omega), ob_some, ← hV1, s1]
        simp only [lt_eq]
        have mn : (if nI (plV N k u) < nI w then nI (plV N k u) else nI w) = nI w' := by
          rw [hw']
          by_cases z : plV N k u < w
          · rw [if_pos (nI_lt z (by omega)), if_pos z]
          · rw [if_neg (le_nlt.mp (nI_le (Nat.le_of_not_lt z) (by omega))), if_neg z]
        rw [mn, ← hV2, ← Int32.sub_eq_add_neg]
      have cnts : ∀ c, ¬ (stN N k u = 0 ∧ clN N k u = nI c) → cntP (lvC N u (k + 1) c) (kN N 7) = cntP (lvC N u k c) (kN N 7) := fun c h => cntP_c (fun m' _ => by
        unfold lvC
        refine ⟨fun q => ⟨by omega, q.2⟩, fun q => ⟨?_, q.2⟩⟩
        rcases Nat.lt_or_ge k m' with y | y
        · exact y
        · exact absurd q.2 (by rw [show m' = k by omega]; exact h))
      rw [e1]
      unfold f_X8_planLeavingOf_L15
      rw [if_neg (nI_pos (by omega)), e_state C hsT (by omega) hu, ob_some]
      simp only [lt_eq]
      by_cases z : stN N k u = 0
      · obtain ⟨c1, c2⟩ := clK_lt wb (m := k) (by omega) hu
        obtain ⟨c, hc⟩ : ∃ c, c = clK N k u := ⟨_, rfl⟩
        rw [← hc] at c1 c2
        have cnt := cntP_le (lvC N u (k + 1) c) (kN N 7)
        have nw : newN N k u = cntP (lvC N u (k + 1) c) (kN N 7) := cntP_c (fun m' _ => by unfold lvC; rw [c2]; exact Iff.rfl)
        have pe : plV N k u = dueV N k u (cntP (lvC N u (k + 1) c) (kN N 7)) := by unfold plV; rw [if_pos z, nw]
        have F1 : PlF T (uai T (p + 18) c (nI (cntP (lvC N u (k + 1) c) (kN N 7) + 1))) p := PlF.uai _ (Or.inr rfl)
        rw [if_neg (fun y => y z), e_retOf C hsT (by omega) hu, ob_some, c2]
        simp only [lt_eq]
        rw [hsT.r714_0, ob_some, e_at (by omega) (by omega), ob_some, m2 c (by omega)]
        simp only [lt_eq]
        rw [e_dueDay C hsT (by omega) hu (by omega), ob_some, ← pe]
        simp only [lt_eq]
        rw [hsT.r714_0, ob_some, ob_some, e_at (by omega) (by omega), ob_some, m2 c (by omega)]
        simp only [lt_eq]
        rw [nI_1, e_put _ (by omega) (by omega), ob_some]
        refine fin _ F1 (fun x hx => ?_) (by funext j; rw [ai_uai, if_neg (by omega)]) rfl
        rw [ai_uai]
        by_cases y : x = c
        · subst y
          rw [if_pos ⟨rfl, rfl⟩]
          refine congrArg nI (Eq.symm (cntP_del (q := k) (by omega) ⟨Nat.le_refl _, z, c2⟩ (fun q => by have := q.1; omega) (fun m' _ ne => ⟨fun q => ⟨by have := q.1; omega, q.2⟩, fun q => ⟨by have := q.1; omega, q.2⟩⟩)))
        · rw [if_neg (fun q => y q.2), m2 x hx, cnts x (fun q => y ((nI_eq (by omega) (by omega)).mp (q.2.symm.trans c2)))]
      · have pe : plV N k u = bigD := by unfold plV; rw [if_neg z]
        rw [if_pos z]
        have := fin T (PlF.rf T p) (fun x hx => by rw [m2 x hx, cnts x (fun q => z q.1)]) rfl rfl
        rw [pe] at this
        exact this
  have gT := g.soft hp f2
  unfold f_X8_planLeavingOf
  rw [hs.r714_0, ob_some, f1, ob_some, gT.c0.s705]
  simp only [lt_eq]
  exact loop (kN N 7) F T0 w0 (Nat.le_refl _) (by omega) f2 (fun c hc => by rw [f3 c hc, cntP_z.mpr (fun m' h q => by have := q.1; omega)]; rfl) (fun m h1 h2 => by omega) (fun j _ => by rw [f4]) (f5.trans hw) (Nat.le_refl _) (fun m h1 h2 => by omega)
end Po
