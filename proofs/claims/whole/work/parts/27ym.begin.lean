/-! a day begins: the class -/
/-- after the leaving: the round, if it is its day, and the day's note -/
noncomputable def rdN (L : (Nat → Int32) → Int32 → Int32 → Nat → Int32) (N : Nat → Int32) : (Nat → Int32) × Nat := if ¬ (N 2 - N 2 / N 1 * N 1) = 0 then (L N 10 (N 2), 0) else (L (L (rndN L (kN N 8) N).1 9 (nI (rndN L (kN N 8) N).2)) 10 (N 2), (rndN L (kN N 8) N).2)
section Bd
variable {F : Nat} {S : St} {n p d : Nat} {N B : Nat → Int32}
theorem e_begin29 (g : Cl S n p N B) (hp : 27 ≤ p ∧ p + 20 < 212) (hs : SpF S p) (hF : 1000 ≤ F) : ∃ T, f_X8_beginDay_L29 F S p = some (nI (rdN lgN N).2, T) ∧ Cl T n p (rdN lgN N).1 B ∧ LvF S T p := by
  have C := g.c0
  have w := C.wb
  have b8 := w.n8.2
  have b1 := w.n1.2
  have p1 := w.n1p
  obtain ⟨r, h1, h2, h3⟩ := C.ru
  have s1 : si S 601 r = N 1 := h3.2.1.2.1
  have s0 : si S 600 r = N 0 := h3.2.1.1
  have z1 : ¬ N 1 ≤ 0 := by rw [w.n1.1]; exact nI_nle (by omega) (by omega)
  have z2 : ¬ N 1 = 0 := by rw [w.n1.1]; exact nI_ne0 (by omega) (by omega)
  -- the day's note
  have last : ∀ (T : St) (M : Nat → Int32) (c : Nat), Cl T n p M B → LvF S T p → M 2 = N 2 → ∃ T', f_X8_beginDay_L93 F T p (nI c) = some (nI c, T') ∧ Cl T' n p (lgN M 10 (N 2)) B ∧ LvF S T' p := by
    intro T M c gT f e2
    have hsT : SpF T p := hs.frm f.2.1 f.2.2
    obtain ⟨T', t1, t2, t3, t4, t5⟩ := gT.note (F := F) hp hsT 10 (N 2)
    rw [e2] at t1
    refine ⟨T', ?_, t2, f.tr ⟨fun i _ _ _ _ _ _ k => t3 i k, t4, t5⟩⟩
    unfold f_X8_beginDay_L93
    rw [hsT.r711_0, ob_some, gT.c0.s701, e2, t1, ob_some]
  unfold f_X8_beginDay_L29
  rw [h1, ob_some, s1, if_neg z1, ob_some, s1, ck_t z2, C.s701]
  unfold rdN
  by_cases z : ¬ (N 2 - N 2 / N 1 * N 1) = 0
  · rw [if_pos z, if_pos z]
    exact last S N 0 g (LvF.rf S p) rfl
  · rw [if_neg z, if_neg z, hs.r710_0, ob_some, ob_some, hs.r711_0, ob_some, s0]
    obtain ⟨T, t1, t2, t3, t4, t5⟩ := e_removeDead (F := F) g hp hs hF
    have f : LvF S T p := ⟨fun i _ _ _ a _ b c => t3 i a b c, t4, t5⟩
    have hsT : SpF T p := hs.frm t4 t5
    have e2 : (rndN lgN (kN N 8) N).1 2 = N 2 := rndN_lo isLg_lg _ b8 2 (by omega) (by omega) (by unfold xI; omega)
    obtain ⟨V, v1, v2, v3, v4, v5⟩ := t2.note (F := F) hp hsT 9 (nI (rndN lgN (kN N 8) N).2)
    rw [e2] at v1
    rw [t1, ob_some]
    simp only [lt_eq]
    rw [hsT.r711_0, ob_some, t2.c0.s701, e2, v1, ob_some]
    exact last V _ _ v2 (f.tr ⟨fun i _ _ _ _ _ _ k => v3 i k, v4, v5⟩) (by rw [lgN_lo (by omega) (by omega)]; exact e2)
end Bd
