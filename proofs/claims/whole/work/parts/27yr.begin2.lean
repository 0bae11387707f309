/-! a day begins: the class, whole -/
section Bg
variable {F : Nat} {S : St} {n p : Nat} {N B : Nat → Int32}
/-- what a day writes -/
def BdF (S T : St) (p : Nat) : Prop := (∀ i, ¬ (p ≤ i ∧ i ≤ p + 20) → SameO S T i) ∧ (∀ f i, sr T f i = sr S f i) ∧ ln T = ln S
theorem BdF.rf (S : St) (p : Nat) : BdF S S p := ⟨fun i _ => SameO.rf S i, fun _ _ => rfl, rfl⟩
theorem BdF.tr {T U : St} (h : BdF S T p) (g : BdF T U p) : BdF S U p := ⟨fun i a => (h.1 i a).tr (g.1 i a), fun f i => (g.2.1 f i).trans (h.2.1 f i), g.2.2.trans h.2.2⟩
theorem LvF.bd {T : St} (h : LvF S T p) : BdF S T p := ⟨fun i a => h.1 i (by omega) (by omega) (by omega) (by omega) (by omega) (by omega) (by omega), h.2.1, h.2.2⟩
theorem PlF.bd {T : St} (h : PlF S T p) : BdF S T p := ⟨fun i a => h.1 i (by omega) (by omega) (by omega), h.2.2.1, h.2.2.2.1⟩
theorem rdN_lo {L : (Nat → Int32) → Int32 → Int32 → Nat → Int32} {N : Nat → Int32} (hL : isLg L) (b8 : kN N 8 ≤ 480) {k : Nat} (h : k < 6211) (h9 : ¬ k = 9) (hI : ¬ xI k) : (rdN L N).1 k = N k := by
  unfold rdN
  by_cases z : ¬ (N 2 - N 2 / N 1 * N 1) = 0
  · rw [if_pos z]; exact (hL _ _ _).1 k h h9
  · rw [if_neg z]; exact (((hL _ _ _).1 k h h9).trans ((hL _ _ _).1 k h h9)).trans (rndN_lo hL _ b8 k h h9 hI)
theorem e_beginDay (g : Cl S n p N B) (hp : 27 ≤ p ∧ p + 20 < 212) (hs : SpF S p) (P : Pln S p N (kN N 2)) (h : kN N 2 < 22000) (hd : p = 48 ∨ kN N 2 < 20000) (hF : 1000 ≤ F) :
    ∃ T, f_X8_beginDay F S p = some (nI (dyN lgN B N).2, T) ∧ Cl T n p (dyN lgN B N).1 B ∧ BdF S T p ∧ Pln T p (dyN lgN B N).1 (kN N 2 + 1) := by
  have w := g.c0.wb
  have b8 := w.n8.2
  obtain ⟨S1, hS1⟩ : ∃ S1, S1 = ui S 701 p (nI (kN N 2 + 1)) := ⟨_, rfl⟩
  have g1 : Cl S1 n p (dayN N) B := by rw [hS1]; exact g.day hp h hd
  have F1 : BdF S S1 p := by rw [hS1]; exact ⟨fun i a => SameO.ui _ (by omega), fun _ _ => rfl, rfl⟩
  have hs1 : SpF S1 p := hs.frm F1.2.1 F1.2.2
  have e713 : si S1 713 p = si S 713 p := by rw [hS1, si_ui, if_neg (by omega)]
  have e17 : ai S1 (p + 17) = ai S (p + 17) := by rw [hS1]; rfl
  have hE : EqX (fun k => k = 2) N (dayN N) := fun k _ _ z => dayN_n z
  have P1 : Pln S1 p (dayN N) (kN N 2) := P.cong hE (fun k z => Or.inl z) w (Nat.le_refl _) e713 e17
  have k2 : kN (dayN N) 2 = kN N 2 + 1 := (dayN_2 h).2
  have k7 : kN (dayN N) 7 = kN N 7 := dayN_k (by omega)
  have k8 : kN (dayN N) 8 = kN N 8 := dayN_k (by omega)
  have wd := w.day h
  have e2 : dayN N 2 = nI (kN N 2 + 1) := upd_e N 2 _
  obtain ⟨w0, q1, q2, q3⟩ := P1
  have big : bigD < 2 ^ 31 := by unfold bigD; omega
  have big2 : kN N 2 + 1 < bigD := by unfold bigD; omega
  have e701 : si S1 701 p = nI (kN N 2 + 1) := by rw [hS1, si_ui, if_pos ⟨rfl, rfl⟩]
  -- the end, after the leaving
  have fin : ∀ (T : St) (M : Nat → Int32), Cl T n p M B → BdF S T p → kN M 8 ≤ 480 → Pln T p M (kN N 2 + 1) → ∃ T', f_X8_beginDay_L29 F T p = some (nI (rdN lgN M).2, T') ∧ Cl T' n p (rdN lgN M).1 B ∧ BdF S T' p ∧ Pln T' p (rdN lgN M).1 (kN N 2 + 1) := by
    intro T M gT f b8' PT
    obtain ⟨T', t1, t2, t3⟩ := e_begin29 (F := F) gT hp (hs.frm f.2.1 f.2.2) hF
    refine ⟨T', t1, t2, f.tr t3.bd, PT.cong (X := xI) (fun k a b c => rdN_lo isLg_lg b8' a b c) (fun k z => Or.inr (Or.inr z)) gT.c0.wb (Nat.le_refl _) ((t3.1 p (by omega) (by omega) (by omega) (by omega) (by omega) (by omega) (by omega)).1 713) (t3.1 (p + 17) (by omega) (by omega) (by omega) (by omega) (by omega) (by omega) (by omega)).row⟩
  unfold f_X8_beginDay
  rw [g.c0.s701, w.n2.1, nI_1, ← hS1]
  simp only [lt_eq]
  rw [e701, q1]
  unfold dyN
  by_cases z : kN N 2 + 1 < w0
  · rw [if_pos (nI_lt z (by omega))]
    have none : lvN lgN B (dayN N) (kN N 2 + 1) (kN N 7) = dayN N := by
      rw [← k7]
      refine lvN_none (fun m u hm hu y => ?_) _ (Nat.le_refl _)
      obtain ⟨v, v1, v2, v3, v4⟩ := q3 m u hm hu
      have := (v4 (kN N 2 + 1) (by omega) big2).mpr y
      omega
    rw [none]
    exact fin S1 (dayN N) g1 F1 (by rw [k8]; exact b8) (Pln.cong (N := dayN N) ⟨w0, q1, q2, q3⟩ (EqX.mono (X := fun _ => False) (fun k _ _ _ => rfl) (fun k z => z.elim)) (X := fun _ => False) (fun k z => z.elim) wd (by omega) rfl rfl)
  · rw [if_neg (le_nlt.mp (nI_le (Nat.le_of_not_lt z) (by omega)))]
    obtain ⟨T1, t1, t2, t3, t4⟩ := e_leaveAll (F := F) g1 hp hs1 ⟨w0, q1, q2, q3⟩ (D := kN N 2 + 1) ⟨by omega, big2⟩ e2 hF
    rw [k7] at t2 t4
    have f1 := F1.tr t3.bd
    obtain ⟨T2, r1, r2, r3⟩ := e_plan (F := F) t2 hp (hs.frm f1.2.1 f1.2.2) hF
    rw [t4.kn (by omega) (by omega), k2] at r3
    obtain ⟨T', x1, x2⟩ := fin T2 _ (t2.soft hp r2) (f1.tr r2.bd) (by rw [t4.kn (by omega) (by omega), k8]; exact b8) r3
    refine ⟨T', ?_, x2⟩
    rw [t1, ob_some, r1, ob_some, x1]
end Bg
