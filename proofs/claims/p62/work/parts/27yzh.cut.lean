/-! the input as the content of a message: where its parts begin -/
def nb (f : Nat → Int32) : Nat → Nat
  | 0 => 0
  | k + 1 => if f k = 124 then nb f k + 1 else nb f k
def updN (g : Nat → Nat) (i v : Nat) : Nat → Nat := fun j => if j = i then v else g j
theorem updN_e (g : Nat → Nat) (i v : Nat) : updN g i v i = v := if_pos rfl
theorem updN_n {g : Nat → Nat} {i v j : Nat} (h : ¬ j = i) : updN g i v j = g j := if_neg h
def cw (f : Nat → Int32) : Nat → Nat → Nat
  | 0 => fun _ => 0
  | k + 1 => if f k = 124 then updN (cw f k) (nb f k + 1) (k + 1) else cw f k
/-- how many parts, where each begins; one behind the last -/
def kC (f : Nat → Int32) (L : Nat) : Nat := nb f L + 1
def cC (f : Nat → Int32) (L : Nat) : Nat → Nat := updN (cw f L) (nb f L + 1) (L + 1)
def lC (f : Nat → Int32) (L j : Nat) : Nat := cC f L (j + 1) - 1 - cC f L j
section Cw
variable {f : Nat → Int32} {L : Nat}
theorem nb_le (f : Nat → Int32) : ∀ k, nb f k ≤ k := by
  intro k
  induction k with
  | zero => exact Nat.le_refl _
  | succ k ih => unfold nb; split <;> omega
theorem cw_inv (f : Nat → Int32) : ∀ k, cw f k 0 = 0 ∧ (∀ j, 1 ≤ j → j ≤ nb f k → 1 ≤ cw f k j ∧ cw f k j ≤ k ∧ f (cw f k j - 1) = 124) ∧ (∀ j, j < nb f k → cw f k j < cw f k (j + 1) ∧ ∀ i, cw f k j ≤ i → i + 1 < cw f k (j + 1) → ¬ f i = 124) ∧ (∀ i, cw f k (nb f k) ≤ i → i < k → ¬ f i = 124) ∧ cw f k (nb f k) ≤ k := by
  intro k
  induction k with
  | zero => exact ⟨rfl, fun j h1 h2 => by unfold nb at h2; omega, fun j h => by unfold nb at h; omega, fun i _ h => by omega, Nat.le_refl _⟩
  | succ k ih =>
    obtain ⟨h1, h2, h3, h4, h5⟩ := ih
    by_cases z : f k = 124
    · have en : nb f (k + 1) = nb f k + 1 := by rw [nb, if_pos z]
      have ec : cw f (k + 1) = updN (cw f k) (nb f k + 1) (k + 1) := by rw [cw, if_pos z]
      rw [en, ec]
      refine ⟨by rw [updN_n (by omega)]; exact h1, fun j j1 j2 => ?_, fun j j1 => ?_, fun i i1 i2 => ?_, by rw [updN_e]; omega⟩
      · by_cases y : j = nb f k + 1
        · rw [y, updN_e]; exact ⟨by omega, by omega, by rw [Nat.add_sub_cancel]; exact z⟩
        · rw [updN_n y]
          obtain ⟨a, b, c⟩ := h2 j j1 (by omega)
          exact ⟨a, by omega, c⟩
      · rw [updN_n (j := j) (by omega)]
        by_cases y : j = nb f k
        · rw [y, updN_e]
          exact ⟨by omega, fun i i1 i2 => h4 i i1 (by omega)⟩
        · rw [updN_n (by omega)]
          exact h3 j (by omega)
      · rw [updN_e] at i1; omega
    · have en : nb f (k + 1) = nb f k := by rw [nb, if_neg z]
      have ec : cw f (k + 1) = cw f k := by rw [cw, if_neg z]
      rw [en, ec]
      refine ⟨h1, fun j j1 j2 => ?_, h3, fun i i1 i2 => ?_, by omega⟩
      · obtain ⟨a, b, c⟩ := h2 j j1 j2
        exact ⟨a, by omega, c⟩
      · by_cases y : i = k
        · rw [y]; exact z
        · exact h4 i i1 (by omega)
theorem cC_0 : cC f L 0 = 0 := by
  unfold cC
  rw [updN_n (by omega)]
  exact (cw_inv f L).1
theorem cC_K : cC f L (kC f L) = L + 1 := updN_e _ _ _
theorem cC_lt {j : Nat} (h : j < kC f L) : cC f L j < cC f L (j + 1) ∧ cC f L j ≤ L ∧ (∀ i, cC f L j ≤ i → i + 1 < cC f L (j + 1) → ¬ f i = 124) ∧ (cC f L (j + 1) - 1 = L ∧ j + 1 = kC f L ∨ cC f L (j + 1) - 1 < L ∧ f (cC f L (j + 1) - 1) = 124 ∧ j + 1 < kC f L) := by
  obtain ⟨h1, h2, h3, h4, h5⟩ := cw_inv f L
  unfold kC at h ⊢
  unfold cC
  rw [updN_n (j := j) (by omega)]
  by_cases y : j = nb f L
  · rw [y, updN_e]
    exact ⟨by omega, h5, fun i i1 i2 => h4 i i1 (by omega), Or.inl ⟨by omega, rfl⟩⟩
  · rw [updN_n (by omega)]
    obtain ⟨a, b⟩ := h3 j (by omega)
    obtain ⟨a1, a2, a3⟩ := h2 (j + 1) (by omega) (by omega)
    exact ⟨a, by omega, b, Or.inr ⟨by omega, a3, by omega⟩⟩
theorem cC_le {j : Nat} (h : j < kC f L) : cC f L (j + 1) ≤ L + 1 := by
  obtain ⟨-, -, -, q⟩ := cC_lt h
  omega
theorem kC_1 : 1 ≤ kC f L := by unfold kC; omega
/-- a content that a message may have -/
def gdC (f : Nat → Int32) (L : Nat) : Prop := kC f L ≤ 4 ∧ ∀ j, j < kC f L → 1 ≤ lC f L j ∧ lC f L j ≤ 200
end Cw
theorem i8_ex (b : Int32) (h : b.toInt8.toInt32 = b) : ∃ n, n < 256 ∧ b = (Int8.ofNat n).toInt32 := by
  refine ⟨b.toInt8.toBitVec.toNat, b.toInt8.toBitVec.isLt, ?_⟩
  have : b.toInt8 = Int8.ofNat b.toInt8.toBitVec.toNat := by
    apply Int8.toBitVec_inj.mp
    show _ = BitVec.ofNat 8 _
    rw [BitVec.ofNat_toNat, BitVec.setWidth_eq]
  rw [← this]
  exact h.symm
theorem and255a : ∀ n, n < 256 → ((Int8.ofNat n).toInt32 &&& 255).toInt8.toInt32 = (Int8.ofNat n).toInt32 := by decide +kernel
theorem i8_inj {a b : Int32} (ha : a.toInt8.toInt32 = a) (hb : b.toInt8.toInt32 = b) : a &&& 255 = b &&& 255 ↔ a = b := by
  obtain ⟨m, m1, m2⟩ := i8_ex a ha
  obtain ⟨n, n1, n2⟩ := i8_ex b hb
  constructor
  · intro h
    have e : (a &&& 255).toInt8.toInt32 = (b &&& 255).toInt8.toInt32 := by rw [h]
    rw [m2, n2, and255a m m1, and255a n n1] at e
    rw [m2, n2]
    exact e
  · intro h; rw [h]
theorem i8_bar {a : Int32} (ha : a.toInt8.toInt32 = a) : a &&& 255 = 124 ↔ a = 124 := by
  have := i8_inj (b := 124) ha (by decide)
  rw [show (124 : Int32) &&& 255 = 124 by decide] at this
  exact this
section Ct
variable {F : Nat} {S : St} {f : Nat → Int32} {L : Nat}
/-- what the class's cutting writes -/
def cutA (i : Nat) : Prop := i = 25 ∨ i = 26
def CtF (S T : St) : Prop := (∀ f i, sr T f i = sr S f i) ∧ (∀ f i, ¬ (f = 103 ∧ i = 24) → si T f i = si S f i) ∧ (∀ i, ¬ cutA i → ai T i = ai S i) ∧ al T = al S ∧ ar T = ar S ∧ ln T = ln S
theorem CtF.fx {S T : St} (c : CtF S T) (hx : FxF S) : FxF T := hx.agr (fun f i _ _ => c.1 f i) (fun i _ => by rw [c.2.2.2.2.2]) (by rw [c.2.2.2.2.1])
theorem CtF.rf (S : St) : CtF S S := ⟨fun _ _ => rfl, fun _ _ _ => rfl, fun _ _ => rfl, rfl, rfl, rfl⟩
theorem CtF.tr {S T U : St} (h : CtF S T) (g : CtF T U) : CtF S U := ⟨fun f i => (g.1 f i).trans (h.1 f i), fun f i a => (g.2.1 f i a).trans (h.2.1 f i a), fun i a => (g.2.2.1 i a).trans (h.2.2.1 i a), g.2.2.2.1.trans h.2.2.2.1, g.2.2.2.2.1.trans h.2.2.2.2.1, g.2.2.2.2.2.trans h.2.2.2.2.2⟩
theorem CtF.ui {S : St} (v : Int32) : CtF S (ui S 103 24 v) := ⟨fun _ _ => rfl, fun f i a => by rw [si_ui, if_neg a], fun _ _ => rfl, rfl, rfl, rfl⟩
theorem CtF.uai {S : St} {i k : Nat} (v : Int32) (h : cutA i) : CtF S (uai S i k v) := ⟨fun _ _ => rfl, fun _ _ _ => rfl, fun j a => ai_uaiN v (fun z => a (by rw [z]; exact h)), rfl, rfl, rfl⟩
/-- the class has cut the content -/
def Cut (S : St) (f : Nat → Int32) (L : Nat) : Prop := si S 103 24 = nI (kC f L) ∧ ∀ j, j < kC f L → ai S 25 j = nI (cC f L j) ∧ ai S 26 j = nI (cC f L (j + 1) - 1)
theorem e_cut (hx : FxF S) (hL : L ≤ 1200) (h1 : si S 1 20 = nI L) (hf : ∀ i, i < L → ai S 21 i = f i ∧ (f i).toInt8.toInt32 = f i) (hF : 10000 ≤ F) : ∃ T, f_X1_cut F S 24 = some (pI (gdC f L), T) ∧ CtF S T ∧ (gdC f L → Cut T f L) := by
  have r0 : sr S 0 20 = some 21 := hx.1 (0, 20, 21) (by decide)
  have l21 : ln S 21 = 1200 := hx.2.1 (21, 1200) (by decide)
  have loop : ∀ d j i fu T, j + d = kC f L → j ≤ 4 → CtF S T → si T 103 24 = nI j → (∀ k, k < j → ai T 25 k = nI (cC f L k) ∧ ai T 26 k = nI (cC f L (k + 1) - 1)) → (∀ k, k < j → 1 ≤ lC f L k ∧ lC f L k ≤ 200) → (d = 0 → i = L + 1) → (0 < d → cC f L j ≤ i ∧ i < cC f L (j + 1)) → (L + 1 - i) < fu → ∃ T', f_X1_cut_L9 F fu T 24 (nI (if d = 0 then L + 1 else cC f L j)) (nI i) = some (pI (gdC f L), T') ∧ CtF S T' ∧ (gdC f L → Cut T' f L) := by
    intro d
    induction d with
    | zero =>
      intro j i fu T hj j4 c s m g i0 _ hfu
      obtain ⟨fu, rfl⟩ : ∃ f', fu = f' + 1 := ⟨fu - 1, by omega⟩
      have ej : j = kC f L := by omega
      have ei := i0 rfl
      have gd : gdC f L := ⟨by omega, fun k hk => g k (by omega)⟩
      have hxT := c.fx hx
      refine ⟨T, ?_, c, fun _ => ⟨by rw [s, ej], fun k hk => m k (by omega)⟩⟩
      unfold f_X1_cut_L9
      rw [hxT.r100_24, ob_some, c.2.1 1 20 (by omega), h1, ei, if_pos (nI_lt (by omega) (by omega)), pI_t gd]
    | succ d ih =>
      intro j i fu
      induction fu generalizing i with
      | zero => intro T _ _ _ _ _ _ _ _ h; omega
      | succ fu ih2 =>
        intro T hj j4 c s m g _ i1 hfu
        obtain ⟨i2, i3⟩ := i1 (by omega)
        obtain ⟨q1, q2, q3, q4⟩ := cC_lt (f := f) (L := L) (j := j) (by omega)
        have q5 := cC_le (f := f) (L := L) (j := j) (by omega)
        have hxT := c.fx hx
        have s20 : si T 1 20 = nI L := by rw [c.2.1 1 20 (by omega), h1]
        have r0T : sr T 0 20 = some 21 := (c.1 0 20).trans r0
        have a21 : ai T 21 = ai S 21 := c.2.2.1 21 (by unfold cutA; omega)
        have l21T : ln T 21 = 1200 := by rw [c.2.2.2.2.2]; exact l21
        rw [if_neg (by omega)]
        unfold f_X1_cut_L9
        rw [hxT.r100_24, ob_some, s20, if_neg (show ¬ nI L < nI i from le_nlt.mp (nI_le (by omega) (by omega))), ob_some, s20]
        -- the end of a part
        have push : i + 1 = cC f L (j + 1) → ∃ T', f_X1_cut_L44 F (fun a0 a1 a2 a3 => f_X1_cut_L9 F fu a0 a1 a2 a3) T 24 (nI (cC f L j)) (nI i) = some (pI (gdC f L), T') ∧ CtF S T' ∧ (gdC f L → Cut T' f L) := by
          intro e
          have el : lC f L j = i - cC f L j := by unfold lC; omega
          unfold f_X1_cut_L44
          rw [s]
          by_cases z4 : 4 ≤ j
          · have ng : ¬ gdC f L := fun y => by have := y.1; omega
            rw [if_pos (show 4 ≤ nI j from nI_le (a := 4) z4 (by omega)), pI_f ng]
            exact ⟨T, rfl, c, fun y => absurd y ng⟩
          rw [if_neg (show ¬ 4 ≤ nI j from fun y => z4 ((nI_leI (a := 4) (by omega) (by omega)).mp y)), nI_sub i2]
          by_cases zl : i - cC f L j < 1
          · have ng : ¬ gdC f L := fun y => by have := (y.2 j (by omega)).1; omega
            rw [if_pos (show nI (i - cC f L j) < 1 from nI_lt (b := 1) zl (by omega)), pI_f ng]
            exact ⟨T, rfl, c, fun y => absurd y ng⟩
          rw [if_neg (show ¬ nI (i - cC f L j) < 1 from le_nlt.mp (nI_le (a := 1) (by omega) (by omega)))]
          by_cases zh : i - cC f L j ≤ 200
          · obtain ⟨T1, hT1⟩ : ∃ T1, T1 = uai T 25 j (nI (cC f L j)) := ⟨_, rfl⟩
            have f1 : CtF T T1 := by rw [hT1]; exact CtF.uai _ (Or.inl rfl)
            have x1 := f1.fx hxT
            obtain ⟨T2, hT2⟩ : ∃ T2, T2 = uai T1 26 j (nI i) := ⟨_, rfl⟩
            have f2 : CtF T1 T2 := by rw [hT2]; exact CtF.uai _ (Or.inr rfl)
            obtain ⟨T3, hT3⟩ : ∃ T3, T3 = ui T2 103 24 (nI (j + 1)) := ⟨_, rfl⟩
            have f3 : CtF T2 T3 := by rw [hT3]; exact CtF.ui _
            have s1 : si T1 103 24 = nI j := by rw [hT1]; exact s
            have s2 : si T2 103 24 = nI j := by rw [hT2]; exact s1
            have r25 : ∀ k, ai T3 25 k = if k = j then nI (cC f L j) else ai T 25 k := fun k => by
              rw [hT3, ai_ui, hT2, ai_uaiN _ (by omega), hT1, ai_uaiE]
              by_cases y : k = j
              · rw [if_pos y, y, upd_e]
              · rw [if_neg y, upd_n y]
            have r26 : ∀ k, ai T3 26 k = if k = j then nI i else ai T 26 k := fun k => by
              rw [hT3, ai_ui, hT2, ai_uaiE]
              by_cases y : k = j
              · rw [if_pos y, y, upd_e]
              · rw [if_neg y, upd_n y, hT1, ai_uaiN _ (by omega)]
            obtain ⟨T', t1, t2⟩ := ih (j + 1) (i + 1) fu T3 (by omega) (by omega) (((c.tr f1).tr f2).tr f3) (by rw [hT3, si_ui, if_pos ⟨rfl, rfl⟩]) (fun k hk => by
              rw [r25, r26]
              by_cases y : k = j
              · rw [if_pos y, if_pos y, y, ← e]; exact ⟨rfl, rfl⟩
              · rw [if_neg y, if_neg y]; exact m k (by omega)) (fun k hk => by
              by_cases y : k = j
              · rw [y]; omega
              · exact g k (by omega)) (fun hd => by
              rcases q4 with q4 | q4 <;> omega) (fun hd => by
              obtain ⟨p1, -⟩ := cC_lt (f := f) (L := L) (j := j + 1) (by omega)
              omega) (by omega)
            refine ⟨T', ?_, t2⟩
            rw [← t1, if_pos (show nI (i - cC f L j) ≤ 200 from nI_le (b := 200) zh (by omega)), hxT.r101_24, ob_some, e_put _ (by rw [hxT.l25]; omega) (by rw [hxT.l25]; omega), ob_some, ← hT1, x1.r102_24, ob_some, s1, e_put _ (by rw [x1.l26]; omega) (by rw [x1.l26]; omega), ob_some, ← hT2, s2, nI_1, ← hT3]
            simp only [lt_eq]
            unfold f_X1_cut_L108
            rw [lt_eq, nI_1, show (if d = 0 then L + 1 else cC f L (j + 1)) = i + 1 from by
              split
              · rcases q4 with q4 | q4 <;> omega
              · omega]
          · have ng : ¬ gdC f L := fun y => by have := (y.2 j (by omega)).2; omega
            rw [if_neg (show ¬ nI (i - cC f L j) ≤ 200 from nI_ge (b := i - cC f L j) (a := 200) (by omega) (by omega)), pI_f ng]
            exact ⟨T, rfl, c, fun y => absurd y ng⟩
        by_cases ze : i + 1 = cC f L (j + 1)
        · rcases q4 with q4 | q4
          · rw [if_pos (show nI i = nI L from by rw [show i = L by omega])]
            exact push ze
          · have bar : f i = 124 := by rw [show i = cC f L (j + 1) - 1 by omega]; exact q4.2.1
            rw [if_neg (show ¬ nI i = nI L from fun y => by have := (nI_eq (by omega) (by omega)).mp y; omega), ob_some, e_byteAt F r0T s20 (by omega) (by omega) (by omega), ob_some, a21, (hf i (by omega)).1]
            simp only [lt_eq]
            rw [if_neg (show ¬ ¬ f i &&& 255 = 124 from fun y => y ((i8_bar (hf i (by omega)).2).mpr bar))]
            exact push ze
        · have nbar : ¬ f i = 124 := q3 i i2 (by omega)
          have iL : i < L := by rcases q4 with q4 | q4 <;> omega
          obtain ⟨T', t1, t2⟩ := ih2 (i + 1) T hj j4 c s m g (fun y => by omega) (fun _ => ⟨by omega, by omega⟩) (by omega)
          rw [if_neg (by omega)] at t1
          refine ⟨T', ?_, t2⟩
          rw [← t1, if_neg (show ¬ nI i = nI L from fun y => by have := (nI_eq (by omega) (by omega)).mp y; omega), ob_some, e_byteAt F r0T s20 (by omega) (by omega) iL, ob_some, a21, (hf i iL).1]
          simp only [lt_eq]
          rw [if_pos (show ¬ f i &&& 255 = 124 from fun y => nbar ((i8_bar (hf i iL).2).mp y))]
          unfold f_X1_cut_L108
          rw [lt_eq, nI_1]
  have k1 : 1 ≤ kC f L := kC_1
  obtain ⟨p1, -⟩ := cC_lt (f := f) (L := L) (j := 0) (by omega)
  have p0 : cC f L 0 = 0 := cC_0
  obtain ⟨T', t1, t2⟩ := loop (kC f L) 0 0 F (ui S 103 24 0) (by omega) (by omega) (CtF.ui 0) (by rw [si_ui, if_pos ⟨rfl, rfl⟩]; rfl) (fun k hk => by omega) (fun k hk => by omega) (fun h => by omega) (fun _ => ⟨by omega, by omega⟩) (by omega)
  refine ⟨T', ?_, t2⟩
  unfold f_X1_cut
  rw [lt_eq, ← t1, if_neg (by omega), p0]
  rfl
end Ct
