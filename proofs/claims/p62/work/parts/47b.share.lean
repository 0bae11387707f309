/-! fairShare -/
def dFin (d : FP.Core.Datum) : Bool := match d with
  | .fin _ _ _ => true
  | _ => false
theorem dFin_of {d : FP.Core.Datum} (h : dFin d = true) : ∃ s c q, d = .fin s c q := by
  cases d with
  | nan => cases h
  | inf s => cases h
  | fin s c q => exact ⟨s, c, q, rfl⟩
set_option maxRecDepth 100000 in
theorem quo_all : ∀ a, a < 201 → ∀ k, k < 11 → (a = 0 ∨ k = 0 ∨ dFin (FP.Core.val64 (FP.ddiv (FP.i2d (nI a)) (FP.i2d (nI k)))) = true) := by decide +kernel
theorem quo_fin {a k : Nat} (h1 : 1 ≤ a) (h2 : a ≤ 200) (h3 : 1 ≤ k) (h4 : k ≤ 10) : ∃ s c q, FP.Core.val64 (FP.ddiv (FP.i2d (nI a)) (FP.i2d (nI k))) = .fin s c q := by
  rcases quo_all a (by omega) k (by omega) with h | h | h
  · omega
  · omega
  · exact dFin_of h
theorem dadd_nn {v w : UInt64} (h : FP.Core.val64 v ≠ .nan) (hw : ∃ s c q, FP.Core.val64 w = .fin s c q) : FP.Core.val64 (FP.dadd v w) ≠ .nan := by
  obtain ⟨s, c, q, hw⟩ := hw
  have e : FP.Core.val64 (FP.dadd v w) = FP.Core.round FP.Core.b64 (FP.Core.exactSum (FP.Core.val64 v) (FP.Core.val64 w)) := FP.Core.val64_dadd v w
  rw [e, hw]
  generalize FP.Core.val64 v = d at h
  cases d with
  | nan => exact absurd rfl h
  | inf t => exact FP.Core.Datum.noConfusion
  | fin t c' q' => exact FP.Core.roundRatio_ne_nan _ _ _ _ _
theorem fin_nn {w : UInt64} (hw : ∃ s c q, FP.Core.val64 w = .fin s c q) : FP.Core.val64 w ≠ .nan := by
  obtain ⟨s, c, q, hw⟩ := hw
  rw [hw]
  exact FP.Core.Datum.noConfusion
/-- how many bits a set has -/
def bcE (p0 : Int32) : Int32 :=
  let x1 := p0 - (((p0.toUInt32 >>> ((1 : Int32).toUInt32 &&& Int32.toUInt32 31)).toInt32) &&& 1431655765)
  let x2 := (x1 &&& 858993459) + (((x1.toUInt32 >>> ((2 : Int32).toUInt32 &&& Int32.toUInt32 31)).toInt32) &&& 858993459)
  let x3 := (x2 + ((x2.toUInt32 >>> ((4 : Int32).toUInt32 &&& Int32.toUInt32 31)).toInt32)) &&& 252645135
  let x4 := x3 + ((x3.toUInt32 >>> ((8 : Int32).toUInt32 &&& Int32.toUInt32 31)).toInt32)
  let x5 := x4 + ((x4.toUInt32 >>> ((16 : Int32).toUInt32 &&& Int32.toUInt32 31)).toInt32)
  x5 &&& 63
def bt (b u : Nat) : Nat := if b.testBit u = true then 1 else 0
def bcN (b : Nat) : Nat := bt b 0 + bt b 1 + bt b 2 + bt b 3 + bt b 4 + bt b 5 + bt b 6 + bt b 7 + bt b 8 + bt b 9
set_option maxRecDepth 100000 in
theorem bc_all : ∀ b, b < 1024 → bcE (nI b) = nI (bcN b) := by decide +kernel
theorem e_bits (F : Nat) (S : St) {b : Nat} (hb : b < 1024) : f_J6_bitCount_0f7a4 F S (nI b) = some (nI (bcN b), S) := by
  rw [← bc_all b hb]
  rfl
theorem bc_cnt (b : Nat) : cntP (fun u => b.testBit u = true) 10 = bcN b := by
  have e : ∀ u, pif (b.testBit u = true) 1 0 = bt b u := fun u => pif_e
  rw [show (10 : Nat) = 0 + 1 + 1 + 1 + 1 + 1 + 1 + 1 + 1 + 1 + 1 from rfl]
  simp only [cntP_s, cntP_0, e]
  unfold bcN
  omega
theorem cntP_stop {P : Nat → Prop} {x : Nat} : ∀ d, (∀ k, x ≤ k → k < x + d → ¬ P k) → cntP P (x + d) = cntP P x := by
  intro d
  induction d with
  | zero => intro _; rfl
  | succ d ih =>
    intro h
    rw [← Nat.add_assoc, cntP_s, pif_f (h (x + d) (by omega) (by omega)), Nat.add_zero]
    exact ih (fun k h1 h2 => h k h1 (by omega))
/-- the fair share -/
noncomputable def shN (N : Nat → Int32) (u x : Nat) : UInt64 := runN (fun q v => pif (rdP N u q) (FP.dadd v (FP.ddiv (FP.i2d (lenN N q)) (FP.i2d (nI (rdK N q))))) v) x 0 FP.dconst0
theorem shN_s {N : Nat → Int32} {u x : Nat} : shN N u (x + 1) = pif (rdP N u x) (FP.dadd (shN N u x) (FP.ddiv (FP.i2d (lenN N x)) (FP.i2d (nI (rdK N x))))) (shN N u x) := by
  unfold shN
  rw [runN_s, Nat.zero_add]
section Fs
variable {F : Nat} {S : St} {n : Nat} {N B : Nat → Int32}
theorem rdK_1 (w : WB N B) {u q : Nat} (hu : u < kN N 4) (h : rdP N u q) : 1 ≤ rdK N q ∧ rdK N q ≤ 10 := by
  have b4 := w.n4.2
  have := cntP_le (fun v => rdP N v q) (kN N 4)
  refine ⟨?_, by unfold rdK; omega⟩
  by_cases z : rdK N q = 0
  · exact absurd h (cntP_z.mp z u hu)
  · omega
theorem quoN (w : WB N B) {u q : Nat} (hu : u < kN N 4) (h : rdP N u q) : ∃ s c e, FP.Core.val64 (FP.ddiv (FP.i2d (lenN N q)) (FP.i2d (nI (rdK N q)))) = .fin s c e := by
  obtain ⟨p1, p2, -⟩ := w.wP q (rdP_lt w h)
  obtain ⟨c1, c2⟩ := rdK_1 w hu h
  rw [show lenN N q = nI (kN N (4771 + 3 * q)) from p1.1]
  exact quo_fin p2 p1.2 c1 c2
theorem shN_nn (w : WB N B) {u : Nat} (hu : u < kN N 4) : ∀ x, FP.Core.val64 (shN N u x) ≠ .nan := by
  intro x
  induction x with
  | zero =>
    show FP.Core.val64 FP.dconst0 ≠ .nan
    decide +kernel
  | succ x ih =>
    rw [shN_s]
    by_cases z : rdP N u x
    · rw [pif_t z]; exact dadd_nn ih (quoN w hu z)
    · rw [pif_f z]; exact ih
theorem e_fair (hx : FxF S) (C : Cl0 S n 27 N B) (R : RowB N (ai S 196) (fun u q => rdP N u q)) {u : Nat} (hu : u < kN N 4) (hF : 1000 ≤ F) : f_X10_fairShare_L21 F F S 0 (nI u) FP.dconst0 0 = some (.inr (shN N u (kN N 8)), S) := by
  have w := C.wb
  have b8 := w.n8.2
  have b4 := w.n4.2
  have stop : shN N u 480 = shN N u (kN N 8) := by
    unfold shN
    rw [show 480 = kN N 8 + (480 - kN N 8) by omega]
    exact runN_stop _ (fun k b h1 _ => pif_f (fun y => by have := rdP_lt w y; omega))
  have loop : ∀ d q fu, q + d = 480 → d < fu → f_X10_fairShare_L21 F fu S 0 (nI u) (shN N u q) (nI q) = some (.inr (shN N u (kN N 8)), S) := by
    intro d
    induction d with
    | zero =>
      intro q fu hk hfu
      obtain ⟨fu, rfl⟩ : ∃ f', fu = f' + 1 := ⟨fu - 1, by omega⟩
      have : q = 480 := by omega
      subst this
      unfold f_X10_fairShare_L21
      rw [hx.r910_0, ob_some, hx.l196, if_pos (nI_le (Nat.le_refl _) (by omega)), stop]
    | succ d ih =>
      intro q fu hk hfu
      obtain ⟨fu, rfl⟩ : ∃ f', fu = f' + 1 := ⟨fu - 1, by omega⟩
      have ih' := ih (q + 1) fu (by omega) (by omega)
      obtain ⟨b, b1, b2, b3⟩ := R q (by omega)
      have t1 := (b3 u (by omega)).trans ⟨fun y => y.2, fun y => ⟨hu, y⟩⟩
      have cnt : bcN b = rdK N q := by
        rw [← bc_cnt]
        unfold rdK
        rw [show (10 : Nat) = kN N 4 + (10 - kN N 4) by omega, cntP_stop]
        · exact cntP_c (fun v hv => (b3 v (by omega)).trans ⟨fun y => y.2, fun y => ⟨hv, y⟩⟩)
        · intro k h1 h2 y
          have := ((b3 k (by omega)).mp y).1
          omega
      have cb : rdK N q ≤ 10 := by
        have := cntP_le (fun v => rdP N v q) (kN N 4)
        unfold rdK
        omega
      have next : ¬ rdP N u q → f_X10_fairShare_L85 F (fun a0 a1 a2 a3 a4 => f_X10_fairShare_L21 F fu a0 a1 a2 a3 a4) S 0 (nI u) (shN N u q) (nI q) = some (.inr (shN N u (kN N 8)), S) := by
        intro z
        unfold f_X10_fairShare_L85
        rw [lt_eq, nI_1]
        rw [shN_s, pif_f z] at ih'
        exact ih'
      unfold f_X10_fairShare_L21
      rw [hx.r910_0, ob_some, hx.l196, if_neg (nI_ge (by omega) (by omega)), ob_some, hx.l196, cki_nI (by omega) (by omega), nI_clamp (by omega), b2, e_bits F S b1, ob_some, cnt]
      simp only [lt_eq]
      by_cases z0 : rdK N q = 0
      · rw [z0, if_pos (show nI 0 ≤ 0 by decide)]
        exact next (fun y => cntP_z.mp z0 u hu y)
      rw [if_neg (show ¬ nI (rdK N q) ≤ 0 from fun y => z0 (by have := (nI_leI (b := 0) (by omega) (by omega)).mp y; omega)), hx.r910_0, ob_some, hx.l196, cki_nI (by omega) (by omega), b2, e_hasBit F S b1 (by omega), ob_some]
      simp only [lt_eq, eq_bI]
      by_cases z : rdP N u q
      rotate_left
      · rw [if_neg (fun y => z (t1.mp y))]
        exact next z
      have q1 := quoN w hu z
      obtain ⟨j, j1, j2, j3, j4, j5, -⟩ := e_bytesOf (F := F) C hx.sp27 (rdP_lt w z)
      have el : lenN N q = nI (kN N (4771 + 3 * q)) := (w.wP q (rdP_lt w z)).1.1
      rw [if_pos (t1.mpr z), hx.r905_0, ob_some, hx.sp27.r710_0, ob_some, j1, ob_some]
      simp only [lt_eq]
      rw [ob_some, j5, ← el, ckn_t (fin_nn q1), ckn_t (dadd_nn (shN_nn w hu q) q1)]
      unfold f_X10_fairShare_L85
      rw [lt_eq, nI_1]
      rw [shN_s, pif_t z] at ih'
      exact ih'
  exact loop 480 0 F (by omega) (by omega)
end Fs
section A
variable {F : Nat} {xs : Nat → Int32} {L : Nat} {S : St} {n : Nat} {i : Int32}
end A
