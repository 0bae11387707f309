/-! a hold is set, a hold is released -/
section Ho
variable {N B : Nat → Int32} {S : St} {n p : Nat}
theorem Cl.hold (g : Cl S n p N B) (hp : 27 ≤ p ∧ p + 20 < 212) {h act : Nat} {b : Int32} (hh : h < kN N 6) (hb : b = 0 ∨ b = 1) (ha : act < 64) (hact : ∀ x, x < 6 → (act.testBit x = true ↔ x < kN N 6 ∧ (if x = h then b = 1 else N (208 + 21 * x) = 1))) : Cl (ui S 703 p (nI act)) n p (upd N (208 + 21 * h) b) B := by
  have C := g.c0
  have w := C.wb
  have b4 := w.n4.2
  have b6 := w.n6.2
  have b7 := w.n7.2
  have b8 := w.n8.2
  have n9 := w.n9
  obtain ⟨M, hM⟩ : ∃ M, M = upd N (208 + 21 * h) b := ⟨_, rfl⟩
  rw [← hM]
  have U : ∀ k, ¬ k = 208 + 21 * h → M k = N k := fun k q => by rw [hM]; exact upd_n q
  have Ue : M (208 + 21 * h) = b := by rw [hM]; exact upd_e _ _ _
  have hE : EqX (fun k => k = 208 + 21 * h) N M := fun k _ _ q => U k q
  have hX : okX (fun k => k = 208 + 21 * h) := fun k z => by omega
  have hK : ∀ k, ¬ k = 208 + 21 * h → kN M k = kN N k := fun k q => by unfold kN; rw [U k q]
  have h9 : isCnt M 9 60 := by unfold isCnt; rw [hK 9 (by omega), U 9 (by omega)]; exact n9
  have sI : ∀ f i, ¬ f = 703 → si (ui S 703 p (nI act)) f i = si S f i := fun f i q => by rw [si_ui, if_neg (fun z => q z.1)]
  refine Cl.mk' (Cl0.x hE hX h9 C (fun i hi => SameO.ui _ (by omega)) rfl ⟨sI _ _ (by decide), sI _ _ (by decide), sI _ _ (by decide)⟩ (hE.wU (fun k z => by omega) b4 w.wU) ?_ (hE.wR (fun k z => by omega) b7 w.wR) ?_ ?_ ⟨act, by rw [si_ui, if_pos ⟨rfl, rfl⟩], ha, ?_⟩ ?_ ?_ ?_ ?_) ((g.cj.agr (fun i i1 i2 => SameO.ui _ (by omega))).x (U 9 (by omega)) (fun k _ _ => U k (by omega)) n9.2) (by rw [hK 2 (by omega)]; exact g.dy)
  · intro x hx
    rw [hK 6 (by omega)] at hx
    obtain ⟨q1, q2, q3, q4, q5, q6, q7⟩ := w.wH x hx
    rw [hK (205 + 21 * x) (by omega), hK 4 (by omega), hK (209 + 21 * x) (by omega)]
    have l9 := q6.2
    refine ⟨hE.cnt (by omega) (by omega) (by omega) q1, q2, hE.cnt (by omega) (by omega) (by omega) q3, hE.cnt (by omega) (by omega) (by omega) q4, ?_, hE.cnt (by omega) (by omega) (by omega) q6, fun k hk => ?_⟩
    · by_cases z : x = h
      · rw [z, Ue]; exact hb
      · rw [U _ (by omega)]; exact q5
    · rw [U _ (by omega)]; exact q7 k hk
  · intro q hq
    rw [hK 8 (by omega)] at hq
    obtain ⟨q1, q2, q3, q4, q5⟩ := w.wP q hq
    unfold isN deN at *
    rw [hK (4771 + 3 * q) (by omega), U (4772 + 3 * q) (by omega), U (4773 + 3 * q) (by omega), hK (4773 + 3 * q) (by omega), hK 2 (by omega)]
    exact ⟨hE.cnt (by omega) (by omega) (by omega) q1, q2, q3, q4.imp id (fun y => ⟨hE.cnt (by omega) (by omega) (by omega) y.1, y.2⟩), q5⟩
  · intro q hq
    have e1 : deN M q = deN N q := U _ (by omega)
    have e2 : isN M q = isN N q := U _ (by omega)
    rw [e1, e2, C.wf.link hq]
    refine ⟨?_, fun y => C.wf.isd hq ((C.wf.link hq).mpr y)⟩
    exact ⟨fun ⟨m, x1, x2, x3⟩ => ⟨m, x1, x2, (hE.kept (fun k z => by omega) (by omega) b4).mpr x3⟩, fun ⟨m, x1, x2, x3⟩ => ⟨m, x1, x2, (hE.kept (fun k z => by omega) (by omega) b4).mp x3⟩⟩
  · intro x hx
    rw [hact x hx]
    refine and_congr_right (fun _ => ?_)
    by_cases z : x = h
    · rw [if_pos z, z, Ue]
    · rw [if_neg z, U _ (by omega)]
  · intro c hc
    rw [U _ (by omega)]
    exact C.qu c hc
  · intro m x hm hx
    rw [hE.st (fun k z => by omega) (by omega) hx, hE.en (fun k z => by omega) (by omega) hx, hE.cl (fun k z => by omega) (by omega) hx]
    exact C.cf m x hm hx
  · rw [sI _ _ (by decide), sI _ _ (by decide), sI _ _ (by decide)]
    refine ⟨rfl, ?_⟩
    rw [cntP_c (P := fun q => isN M q = 1) (Q := fun q => isN N q = 1) (fun k hk => by rw [hE.is (fun k z => by omega) (by omega)]), cntP_c (P := fun q => isN M q = 1 ∧ ¬ deN M q = -1) (Q := fun q => isN N q = 1 ∧ ¬ deN N q = -1) (fun k hk => by rw [hE.is (fun k z => by omega) (by omega), hE.de (fun k z => by omega) (by omega)])]
    exact C.cp.1.2
  · intro q hq
    have cc := C.cp.2 q hq
    rw [hE.is (fun k z => by omega) (by omega), hE.de (fun k z => by omega) (by omega), cntP_c (P := fun m => hasN N m q ∧ keptN M m) (Q := fun m => hasN N m q ∧ keptN N m) (fun k hk => by rw [hE.kept (fun k z => by omega) (by omega) b4])]
    exact ⟨cc.2.2.1, cc.2.2.2⟩
end Ho
/-- what a release does, message by message -/
def relP (N B : Nat → Int32) (m u : Nat) : Prop := (1 ≤ stN N m u ∧ stN N m u ≤ 2) ∧ covN N B m u = 0
noncomputable def relN (L : (Nat → Int32) → Int32 → Int32 → Nat → Int32) (B : Nat → Int32) (u x : Nat) (N : Nat → Int32) : (Nat → Int32) × Nat := runN (fun m a => pif (relP a.1 B m u) (seN L a.1 m u 3 4, a.2 + 1) a) x 0 (N, 0)
theorem relN_0 {L : (Nat → Int32) → Int32 → Int32 → Nat → Int32} {N B : Nat → Int32} {u : Nat} : relN L B u 0 N = (N, 0) := rfl
theorem relN_s {L : (Nat → Int32) → Int32 → Int32 → Nat → Int32} {N B : Nat → Int32} {u x : Nat} : relN L B u (x + 1) N = pif (relP (relN L B u x N).1 B x u) (seN L (relN L B u x N).1 x u 3 4, (relN L B u x N).2 + 1) (relN L B u x N) := by
  unfold relN
  rw [runN_s, Nat.zero_add]
theorem relN_le {L : (Nat → Int32) → Int32 → Int32 → Nat → Int32} {N B : Nat → Int32} {u : Nat} : ∀ x, (relN L B u x N).2 ≤ x := by
  intro x
  induction x with
  | zero => exact Nat.le_refl _
  | succ x ih =>
    rw [relN_s]
    by_cases z : relP (relN L B u x N).1 B x u
    · rw [pif_t z]; exact Nat.succ_le_succ ih
    · rw [pif_f z]; omega
theorem relN_lo {L : (Nat → Int32) → Int32 → Int32 → Nat → Int32} {N B : Nat → Int32} {u : Nat} (hL : isLg L) (hu : u < 10) (b8 : kN N 8 ≤ 480) : ∀ x, x ≤ 120 → ∀ k, k < 6211 → ¬ k = 9 → ¬ xD k → ¬ xS k → (relN L B u x N).1 k = N k := by
  intro x
  induction x with
  | zero => intro _ k _ _ _ _; rfl
  | succ x ih =>
    intro hx k h h9 hd hs
    have i := ih (by omega)
    rw [relN_s]
    by_cases z : relP (relN L B u x N).1 B x u
    · rw [pif_t z]
      have k8 : kN (relN L B u x N).1 8 = kN N 8 := by unfold kN; rw [i 8 (by omega) (by omega) (by unfold xD; omega) (by unfold xS; omega)]
      show seN L (relN L B u x N).1 x u 3 4 k = N k
      rw [seN_lo hL (by omega) h h9 hd, stS_n (fun y => hs (by unfold xS; omega))]
      exact i k h h9 hd hs
    · rw [pif_f z]; exact i k h h9 hd hs
section Rl
variable {F : Nat} {S1 : St} {n p u : Nat} {N B : Nat → Int32}
theorem sub_fuel {F k : Nat} (h : k < F) : ∃ f, F - k = f + 1 ∧ F - (k + 1) = f := ⟨F - (k + 1), by omega, rfl⟩
/-- the class's loop -/
theorem e_release (g : Cl S1 n p N B) (hp : 27 ≤ p ∧ p + 20 < 212) (hs : SpF S1 p) (hu : u < kN N 4) (hF : 1000 ≤ F) : ∀ k, k ≤ kN N 7 → ∃ T, f_X8_releaseHold_L31 F F S1 p (nI u) 0 0 = f_X8_releaseHold_L31 F (F - k) T p (nI u) (nI (relN lgN B u k N).2) (nI k) ∧ Cl T n p (relN lgN B u k N).1 B ∧ (∀ i, ¬ i = p + 3 → ¬ i = p + 6 → ¬ i = p + 9 → ¬ i = p + 10 → ¬ (p + 13 ≤ i ∧ i ≤ p + 16) → SameO S1 T i) ∧ (∀ f i, sr T f i = sr S1 f i) ∧ ln T = ln S1 := by
  have w := g.c0.wb
  have b4 := w.n4.2
  have b7 := w.n7.2
  have b8 := w.n8.2
  intro k
  induction k with
  | zero => intro _; exact ⟨S1, rfl, g, fun i _ _ _ _ _ => SameO.rf S1 i, fun _ _ => rfl, rfl⟩
  | succ k ih =>
    intro hk
    obtain ⟨T, t1, t2, t3, t4, t5⟩ := ih (by omega)
    have lo := relN_lo (L := lgN) (N := N) (B := B) (u := u) isLg_lg (by omega) b8 k (by omega)
    have le := relN_le (L := lgN) (N := N) (B := B) (u := u) k
    have k7 : kN (relN lgN B u k N).1 7 = kN N 7 := by unfold kN; rw [lo 7 (by omega) (by omega) (by unfold xD; omega) (by unfold xS; omega)]
    have k4 : kN (relN lgN B u k N).1 4 = kN N 4 := by unfold kN; rw [lo 4 (by omega) (by omega) (by unfold xD; omega) (by unfold xS; omega)]
    have hsT : SpF T p := hs.frm t4 t5
    have C := t2.c0
    have s5 : si T 705 p = nI (kN N 7) := by rw [C.s705, k7]
    have cb := cov_lt C.wb k u
    obtain ⟨fu, f1, f2⟩ := sub_fuel (F := F) (k := k) (by omega)
    rw [t1, f1, f2]
    conv => enter [1, T, 1, 1]; unfold f_X8_releaseHold_L31
    rw [s5, if_neg (nI_ge (by omega) (by omega)), e_isHidden C hsT (by omega) (by omega), ob_some]
    simp only [lt_eq, eq_bI]
    unfold f_X8_releaseHold_L71
    rw [relN_s]
    by_cases z : 1 ≤ stN (relN lgN B u k N).1 k u ∧ stN (relN lgN B u k N).1 k u ≤ 2
    · rw [if_pos z, e_covers C hsT (by omega) hF, ob_some]
      simp only [lt_eq]
      by_cases c : covN (relN lgN B u k N).1 B k u = 0
      · have z0 : 0 ≤ stN (relN lgN B u k N).1 k u ∧ stN (relN lgN B u k N).1 k u ≤ 2 := ⟨by
          have := z.1
          rw [Int32.le_iff_toInt_le] at *
          have e1 : (1 : Int32).toInt = 1 := by decide
          have e0 : (0 : Int32).toInt = 0 := by decide
          omega, z.2⟩
        obtain ⟨V, v1, v2, v3, v4, v5⟩ := e_endRef (F := F) (v := 3) t2 hp hsT (m := k) (u := u) (by omega) (by omega) z0 (Or.inr (Or.inr rfl)) (Or.inl c) hF
        rw [if_pos c, if_pos c] at v2
        rw [c, if_neg (show ¬ ¬ nI 0 = 0 from fun y => y rfl), v1, ob_some, nI_1, nI_1, pif_t ⟨z, c⟩]
        exact ⟨V, rfl, v2, fun i a b c d e => (t3 i a b c d e).tr (v3 i a b c d e), fun f i => (v4 f i).trans (t4 f i), v5.trans t5⟩
      · rw [if_pos (show ¬ nI (covN (relN lgN B u k N).1 B k u) = 0 from fun y => c ((nI_eq (b := 0) (by omega) (by omega)).mp y)), nI_1, pif_f (fun y => c y.2)]
        exact ⟨T, rfl, t2, t3, t4, t5⟩
    · rw [if_neg z, nI_1, pif_f (fun y => z y.1)]
      exact ⟨T, rfl, t2, t3, t4, t5⟩
end Rl
