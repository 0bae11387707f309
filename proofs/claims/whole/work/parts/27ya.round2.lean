/-! the round, day by day: dead parts whose time is over go -/
def remP (N : Nat → Int32) (q : Nat) : Prop := isN N q = 1 ∧ ¬ deN N q = -1 ∧ N 0 ≤ N 2 - deN N q
noncomputable def rndN (L : (Nat → Int32) → Int32 → Int32 → Nat → Int32) (x : Nat) (N : Nat → Int32) : (Nat → Int32) × Nat := runN (fun q a => pif (remP a.1 q) (L (upd a.1 (4772 + 3 * q) 0) 8 (nI q), a.2 + 1) a) x 0 (N, 0)
/-- the places of whether a part is stored -/
def xI (k : Nat) : Prop := 4771 ≤ k ∧ k < 6211 ∧ k % 3 = 2
section Rn
variable {L : (Nat → Int32) → Int32 → Int32 → Nat → Int32} {N B : Nat → Int32}
theorem rndN_0 : rndN L 0 N = (N, 0) := rfl
theorem rndN_s {x : Nat} : rndN L (x + 1) N = pif (remP (rndN L x N).1 x) (L (upd (rndN L x N).1 (4772 + 3 * x) 0) 8 (nI x), (rndN L x N).2 + 1) (rndN L x N) := by
  unfold rndN
  rw [runN_s, Nat.zero_add]
theorem rndN_le : ∀ x, (rndN L x N).2 ≤ x := by
  intro x
  induction x with
  | zero => exact Nat.le_refl _
  | succ x ih =>
    rw [rndN_s]
    by_cases z : remP (rndN L x N).1 x
    · rw [pif_t z]; exact Nat.succ_le_succ ih
    · rw [pif_f z]; omega
theorem rndN_lo (hL : isLg L) : ∀ x, x ≤ 480 → ∀ k, k < 6211 → ¬ k = 9 → ¬ xI k → (rndN L x N).1 k = N k := by
  intro x
  induction x with
  | zero => intro _ k _ _ _; rfl
  | succ x ih =>
    intro hx k h h9 hd
    rw [rndN_s]
    by_cases z : remP (rndN L x N).1 x
    · rw [pif_t z]
      show L (upd (rndN L x N).1 (4772 + 3 * x) 0) 8 (nI x) k = N k
      rw [(hL _ _ _).1 k h h9, upd_n (fun y => hd (by unfold xI; omega))]
      exact ih (by omega) k h h9 hd
    · rw [pif_f z]; exact ih (by omega) k h h9 hd
theorem rndN_stop {x : Nat} : ∀ d, (∀ q, x ≤ q → q < x + d → ¬ remP (rndN L x N).1 q) → rndN L (x + d) N = rndN L x N := by
  intro d
  induction d with
  | zero => intro _; rfl
  | succ d ih =>
    intro h
    have e := ih (fun q a b => h q a (by omega))
    rw [← Nat.add_assoc, rndN_s, e, pif_f (h (x + d) (by omega) (by omega))]
end Rn
section Rc
variable {F : Nat} {S : St} {n p : Nat} {N B : Nat → Int32}
/-- the class's round -/
theorem e_removeDead (g : Cl S n p N B) (hp : 27 ≤ p ∧ p + 20 < 212) (hs : SpF S p) (hF : 1000 ≤ F) : ∃ T, f_X9_removeDead F S (p + 6) (N 2) (N 0) (p + 13) = some (nI (rndN lgN (kN N 8) N).2, T) ∧ Cl T n p (rndN lgN (kN N 8) N).1 B ∧ (∀ i, ¬ i = p + 6 → ¬ i = p + 10 → ¬ (p + 13 ≤ i ∧ i ≤ p + 16) → SameO S T i) ∧ (∀ f i, sr T f i = sr S f i) ∧ ln T = ln S := by
  have w := g.c0.wb
  have b8 := w.n8.2
  have loop : ∀ d x fu T, x + d = kN N 8 → d < fu → Cl T n p (rndN lgN x N).1 B → (∀ i, ¬ i = p + 6 → ¬ i = p + 10 → ¬ (p + 13 ≤ i ∧ i ≤ p + 16) → SameO S T i) → (∀ f i, sr T f i = sr S f i) → ln T = ln S →
      ∃ T', f_X9_removeDead_L6 F fu T (p + 6) (N 2) (N 0) (p + 13) (nI (rndN lgN x N).2) (nI x) = some (nI (rndN lgN (kN N 8) N).2, T') ∧ Cl T' n p (rndN lgN (kN N 8) N).1 B ∧ (∀ i, ¬ i = p + 6 → ¬ i = p + 10 → ¬ (p + 13 ≤ i ∧ i ≤ p + 16) → SameO S T' i) ∧ (∀ f i, sr T' f i = sr S f i) ∧ ln T' = ln S := by
    intro d
    induction d with
    | zero =>
      intro x fu T hx hfu c1 c2 c3 c4
      obtain ⟨fu, rfl⟩ : ∃ f', fu = f' + 1 := ⟨fu - 1, by omega⟩
      have e : x = kN N 8 := by omega
      subst e
      have lo := rndN_lo (L := lgN) (N := N) isLg_lg (kN N 8) (by omega)
      refine ⟨T, ?_, c1, c2, c3, c4⟩
      unfold f_X9_removeDead_L6
      rw [c1.c0.cp.1.1, lo 8 (by omega) (by omega) (by unfold xI; omega), if_pos (by rw [w.n8.1]; exact nI_le (Nat.le_refl _) (by omega))]
    | succ d ih =>
      intro x fu T hx hfu c1 c2 c3 c4
      obtain ⟨fu, rfl⟩ : ∃ f', fu = f' + 1 := ⟨fu - 1, by omega⟩
      have lo := rndN_lo (L := lgN) (N := N) isLg_lg x (by omega)
      have e8 : (rndN lgN x N).1 8 = nI (kN N 8) := (lo 8 (by omega) (by omega) (by unfold xI; omega)).trans w.n8.1
      have k8 : kN (rndN lgN x N).1 8 = kN N 8 := by unfold kN; rw [lo 8 (by omega) (by omega) (by unfold xI; omega)]
      have e2 : (rndN lgN x N).1 2 = N 2 := lo 2 (by omega) (by omega) (by unfold xI; omega)
      have e0 : (rndN lgN x N).1 0 = N 0 := lo 0 (by omega) (by omega) (by unfold xI; omega)
      have hsT : SpF T p := hs.frm c3 c4
      have cp := c1.c0.cp
      obtain ⟨s0, s1, s2⟩ := cp.1
      have cx := cp.2 x (by omega)
      have l10 := hsT.l10
      have dl := cntP_le (fun q => isN (rndN lgN x N).1 q = 1 ∧ ¬ deN (rndN lgN x N).1 q = -1) (kN (rndN lgN x N).1 8)
      unfold f_X9_removeDead_L6
      rw [s0, e8, if_neg (nI_ge (by omega) (by omega)), s2]
      by_cases c0 : cntP (fun q => isN (rndN lgN x N).1 q = 1 ∧ ¬ deN (rndN lgN x N).1 q = -1) (kN (rndN lgN x N).1 8) = 0
      · rw [c0, if_pos (by decide)]
        have no := cntP_z.mp c0
        have st := rndN_stop (L := lgN) (N := N) (x := x) (kN N 8 - x) (fun q q1 q2 z => no q (by omega) ⟨z.1, z.2.1⟩)
        rw [show x + (kN N 8 - x) = kN N 8 by omega] at st
        rw [st]
        exact ⟨T, rfl, c1, c2, c3, c4⟩
      rw [if_neg (nI_nle (by omega) (by omega)), e_isDead c1.c0 hsT (by omega), ob_some]
      simp only [lt_eq]
      have next : ∀ V, rndN lgN (x + 1) N = rndN lgN x N → V = T → ∃ T', f_X9_removeDead_L89 F (fun a0 a1 a2 a3 a4 a5 a6 => f_X9_removeDead_L6 F fu a0 a1 a2 a3 a4 a5 a6) V (p + 6) (N 2) (N 0) (p + 13) (nI (rndN lgN x N).2) (nI x) = some (nI (rndN lgN (kN N 8) N).2, T') ∧ Cl T' n p (rndN lgN (kN N 8) N).1 B ∧ (∀ i, ¬ i = p + 6 → ¬ i = p + 10 → ¬ (p + 13 ≤ i ∧ i ≤ p + 16) → SameO S T' i) ∧ (∀ f i, sr T' f i = sr S f i) ∧ ln T' = ln S := by
        intro V e hV
        subst hV
        have := ih (x + 1) fu V (by omega) (by omega) (by rw [e]; exact c1) c2 c3 c4
        rw [e] at this
        unfold f_X9_removeDead_L89
        rw [nI_1, lt_eq]
        exact this
      simp only [eq_bI]
      by_cases z : isN (rndN lgN x N).1 x = 1 ∧ ¬ deN (rndN lgN x N).1 x = -1
      · have a10 : ai T (p + 10) x = deN (rndN lgN x N).1 x := by rw [cx.2.2.2, if_pos z.1]
        rw [if_pos z, hsT.r806_6, ob_some, e_at (by omega) (by omega), ob_some, a10]
        simp only [lt_eq]
        by_cases y : N 2 - deN (rndN lgN x N).1 x < N 0
        · rw [if_pos y]
          exact next T (by rw [rndN_s, pif_f (fun r => (le_nlt.mp r.2.2) (by rw [e2, e0]; exact y))]) rfl
        · have hr : remP (rndN lgN x N).1 x := ⟨z.1, z.2, by rw [e2, e0]; exact le_nlt.mpr y⟩
          have g1 := c1.rem hp (by omega) z.1 z.2
          obtain ⟨V, hV⟩ : ∃ V, V = ui (ui (uai T (p + 10) x (-2)) 801 (p + 6) (si T 801 (p + 6) - 1)) 802 (p + 6) (si T 802 (p + 6) - 1) := ⟨_, rfl⟩
          rw [← hV] at g1
          have OV : ∀ i, ¬ i = p + 6 → ¬ i = p + 10 → SameO T V i := fun i a b => by rw [hV]; exact ((SameO.uai _ b).tr (SameO.ui _ a)).tr (SameO.ui _ a)
          have rV : ∀ f i, sr V f i = sr T f i := fun f i => by rw [hV]; rfl
          have lV : ln V = ln T := by rw [hV]; rfl
          obtain ⟨W, w1, w2, w3, w4, w5⟩ := g1.note (F := F) hp (hsT.frm rV lV) 8 (nI x)
          rw [upd_n (by omega), e2] at w1
          have er : rndN lgN (x + 1) N = (lgN (upd (rndN lgN x N).1 (4772 + 3 * x) 0) 8 (nI x), (rndN lgN x N).2 + 1) := by rw [rndN_s, pif_t hr]
          have go := ih (x + 1) fu W (by omega) (by omega) (by rw [er]; exact w2) (fun i a b c => ((c2 i a b c).tr (OV i a b)).tr (w3 i c)) (fun f i => ((w4 f i).trans (rV f i)).trans (c3 f i)) ((w5.trans lV).trans c4)
          rw [er] at go
          rw [if_neg y, hsT.r806_6, ob_some, e_put _ (by omega) (by omega), ob_some, si_uai, si_ui, if_neg (by omega), si_uai, ← hV, w1, ob_some, nI_1]
          unfold f_X9_removeDead_L89
          rw [nI_1, lt_eq]
          exact go
      · rw [if_neg z]
        exact next T (by rw [rndN_s, pif_f (fun r => z ⟨r.1, r.2.1⟩)]) rfl
  exact loop (kN N 8) 0 F S (by omega) (by omega) g (fun i _ _ _ => SameO.rf S i) (fun _ _ => rfl) rfl
end Rc
