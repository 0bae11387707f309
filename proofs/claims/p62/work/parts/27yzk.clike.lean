/-! which stored part lies at a place, and whether there is room: the class -/
/-- the input buffer of the class -/
def Inp (S : St) (f : Nat → Int32) (L : Nat) : Prop := L ≤ 1200 ∧ si S 1 20 = nI L ∧ ∀ i, i < L → ai S 21 i = f i ∧ (f i).toInt8.toInt32 = f i
/-- the parts' bytes and whether they are stored, by themselves -/
def Pt (S : St) (n p : Nat) (N B : Nat → Int32) : Prop := si S 800 (p + 6) = nI (kN N 8) ∧ kN N 8 ≤ 480 ∧ ∀ q, q < kN N 8 →
  (∃ j, ar S (p + 7) q = some j ∧ dyn n j 2 ∧ sr S 0 j = some (j + 1) ∧ ln S (j + 1) = kN N (4771 + 3 * q) ∧ si S 1 j = nI (kN N (4771 + 3 * q)) ∧ ∀ k, k < kN N (4771 + 3 * q) → ai S (j + 1) k = B (200 * q + k)) ∧
  (ai S (p + 10) q = if isN N q = 1 then deN N q else -2) ∧ ¬ deN N q = -2 ∧ (∀ k, k < kN N (4771 + 3 * q) → (B (200 * q + k)).toInt8.toInt32 = B (200 * q + k)) ∧ 1 ≤ kN N (4771 + 3 * q) ∧ kN N (4771 + 3 * q) ≤ 200
theorem Cl0.pt {S : St} {n p : Nat} {N B : Nat → Int32} (C : Cl0 S n p N B) : Pt S n p N B := by
  have w := C.wb
  refine ⟨C.cp.1.1.trans w.n8.1, w.n8.2, fun q hq => ?_⟩
  obtain ⟨p1, p2, p3, p4, p5⟩ := w.wP q hq
  obtain ⟨⟨j, g1, g2, g3, g4, g5, g6⟩, -, -, g9⟩ := C.cp.2 q hq
  refine ⟨⟨j, g1, g2, g3, g4, g5.trans p1.1, g6⟩, g9, ?_, p5, p2, p1.2⟩
  rcases p4 with y | y
  · rw [y]; decide
  · have := y.1.2
    rw [show deN N q = nI (kN N (4773 + 3 * q)) from y.1.1]
    intro z
    exact nI_pos (n := kN N (4773 + 3 * q)) (by omega) (by rw [z]; decide)
section Cs
variable {F : Nat} {S : St} {f : Nat → Int32} {L n p : Nat} {N B : Nat → Int32}
theorem e_sizeAt (hx : FxF S) (c : Cut S f L) (hg : gdC f L) {j : Nat} (hj : j < kC f L) : f_X1_sizeAt F S 24 (nI j) = some (nI (lC f L j), S) := by
  have g1 := hg.1
  obtain ⟨q1, q2, -, -⟩ := cC_lt (f := f) (L := L) hj
  obtain ⟨c1, c2⟩ := c.2 j hj
  unfold f_X1_sizeAt
  rw [hx.r102_24, ob_some, e_at (by rw [hx.l26]; omega) (by rw [hx.l26]; omega), ob_some, c2]
  simp only [lt_eq]
  rw [hx.r101_24, ob_some, e_at (by rw [hx.l25]; omega) (by rw [hx.l25]; omega), ob_some, c1]
  simp only [lt_eq]
  rw [nI_sub (by omega)]
  rfl
theorem e_sizeOfAll (hx : FxF S) (c : Cut S f L) (hg : gdC f L) (hF : 1000 ≤ F) : f_X1_sizeOfAll F S 24 = some (nI (szC f L (kC f L)), S) := by
  have g1 := hg.1
  have loop : ∀ d j fu, j + d = kC f L → d < fu → f_X1_sizeOfAll_L4 F fu S 24 (nI (szC f L j)) (nI j) = some (nI (szC f L (kC f L)), S) := by
    intro d
    induction d with
    | zero =>
      intro j fu hj hfu
      obtain ⟨fu, rfl⟩ : ∃ f', fu = f' + 1 := ⟨fu - 1, by omega⟩
      have ej : j = kC f L := by omega
      subst ej
      unfold f_X1_sizeOfAll_L4
      rw [c.1, if_pos (nI_le (Nat.le_refl _) (by omega))]
    | succ d ih =>
      intro j fu hj hfu
      obtain ⟨fu, rfl⟩ : ∃ f', fu = f' + 1 := ⟨fu - 1, by omega⟩
      have ih' := ih (j + 1) fu (by omega) (by omega)
      unfold f_X1_sizeOfAll_L4
      rw [c.1, if_neg (nI_ge (by omega) (by omega)), e_sizeAt hx c hg (by omega), ob_some]
      simp only [lt_eq]
      rw [nI_add, nI_1, ← szC_s]
      exact ih'
  unfold f_X1_sizeOfAll
  exact loop (kC f L) 0 F (by omega) (by omega)
theorem inB (hx : FxF S) (hi : Inp S f L) {k : Nat} (hk : k < L) : f_X0_byteAt F S 20 (nI k) = some (f k &&& 255, S) := by
  have r0 : sr S 0 20 = some 21 := hx.1 (0, 20, 21) (by decide)
  have l21 : ln S 21 = 1200 := hx.2.1 (21, 1200) (by decide)
  have := hi.1
  rw [e_byteAt F r0 hi.2.1 (by omega) (by omega) hk, (hi.2.2 k hk).1]
theorem e_areEqual (hx : FxF S) (hi : Inp S f L) (c : Cut S f L) (hg : gdC f L) {i j : Nat} (hii : i < kC f L) (hj : j < kC f L) (hF : 1000 ≤ F) : f_X1_areEqual F S 24 (nI i) (nI j) = some (pI (smC f L i j), S) := by
  have g1 := hg.1
  obtain ⟨l1, l2⟩ := hg.2 i hii
  obtain ⟨m1, m2⟩ := hg.2 j hj
  have p5 := cC_le (f := f) (L := L) hii
  have q5 := cC_le (f := f) (L := L) hj
  have li : cC f L i + lC f L i ≤ L := by unfold lC at l1 ⊢; omega
  have lj : cC f L j + lC f L j ≤ L := by unfold lC at m1 ⊢; omega
  have hL := hi.1
  unfold f_X1_areEqual
  rw [e_sizeAt hx c hg hii, ob_some]
  simp only [lt_eq]
  rw [e_sizeAt hx c hg hj, ob_some]
  simp only [lt_eq]
  by_cases z : lC f L i = lC f L j
  rotate_left
  · rw [if_neg (fun y => z ((nI_eq (by omega) (by omega)).mp y)), pI_f (fun y => z y.1)]
  rw [if_pos (by rw [z])]
  have loop : ∀ d k fu, k + d = lC f L i → d < fu → (∀ x, x < k → f (cC f L i + x) = f (cC f L j + x)) → f_X1_areEqual_L17 F fu S 24 (nI i) (nI j) (nI k) = some (pI (smC f L i j), S) := by
    intro d
    induction d with
    | zero =>
      intro k fu hk hfu no
      obtain ⟨fu, rfl⟩ : ∃ f', fu = f' + 1 := ⟨fu - 1, by omega⟩
      have ek : k = lC f L i := by omega
      subst ek
      unfold f_X1_areEqual_L17
      rw [e_sizeAt hx c hg hii, ob_some]
      simp only [lt_eq]
      rw [if_pos (nI_le (Nat.le_refl _) (by omega)), pI_t ⟨z, no⟩]
    | succ d ih =>
      intro k fu hk hfu no
      obtain ⟨fu, rfl⟩ : ∃ f', fu = f' + 1 := ⟨fu - 1, by omega⟩
      unfold f_X1_areEqual_L17
      rw [e_sizeAt hx c hg hii, ob_some]
      simp only [lt_eq]
      rw [if_neg (nI_ge (by omega) (by omega)), hx.r100_24, ob_some, hx.r101_24, ob_some, e_at (by rw [hx.l25]; omega) (by rw [hx.l25]; omega), ob_some, (c.2 i hii).1]
      simp only [lt_eq]
      rw [nI_add, inB hx hi (by omega), ob_some]
      simp only [lt_eq]
      rw [hx.r100_24, ob_some, hx.r101_24, ob_some, e_at (by rw [hx.l25]; omega) (by rw [hx.l25]; omega), ob_some, (c.2 j hj).1]
      simp only [lt_eq]
      rw [nI_add, inB hx hi (by omega), ob_some]
      simp only [lt_eq]
      by_cases y : f (cC f L i + k) = f (cC f L j + k)
      · rw [if_pos (by rw [y]), nI_1]
        exact ih (k + 1) fu (by omega) (by omega) (fun x hx => by
          by_cases e : x = k
          · rw [e]; exact y
          · exact no x (by omega))
      · rw [if_neg (fun w => y ((i8_inj (hi.2.2 _ (by omega)).2 (hi.2.2 _ (by omega)).2).mp w)), pI_f (fun w => y (w.2 k (by omega)))]
  exact loop (lC f L i) 0 F (by omega) (by omega) (fun x hx => by omega)
theorem e_isFirst (hx : FxF S) (hi : Inp S f L) (c : Cut S f L) (hg : gdC f L) {j : Nat} (hj : j < kC f L) (hF : 1000 ≤ F) : f_X1_isFirstOfItsKind F S 24 (nI j) = some (pI (fsC f L j), S) := by
  have g1 := hg.1
  have loop : ∀ d i fu, i + d = j → d < fu → (∀ x, x < i → ¬ smC f L x j) → f_X1_isFirstOfItsKind_L2 F fu S 24 (nI j) (nI i) = some (pI (fsC f L j), S) := by
    intro d
    induction d with
    | zero =>
      intro i fu hi' hfu no
      obtain ⟨fu, rfl⟩ : ∃ f', fu = f' + 1 := ⟨fu - 1, by omega⟩
      have ei : i = j := by omega
      subst ei
      unfold f_X1_isFirstOfItsKind_L2
      rw [if_pos (nI_le (Nat.le_refl _) (by omega)), pI_t (show fsC f L i from no)]
    | succ d ih =>
      intro i fu hi' hfu no
      obtain ⟨fu, rfl⟩ : ∃ f', fu = f' + 1 := ⟨fu - 1, by omega⟩
      unfold f_X1_isFirstOfItsKind_L2
      rw [if_neg (nI_ge (by omega) (by omega)), e_areEqual hx hi c hg (by omega) hj hF, ob_some]
      simp only [lt_eq]
      by_cases z : smC f L i j
      · rw [pI_t z, if_neg (show ¬ (1 : Int32) = 0 by decide), pI_f (fun y => y i (by omega) z)]
      · rw [pI_f z, if_pos rfl, nI_1]
        exact ih (i + 1) fu (by omega) (by omega) (fun x hx => by
          by_cases e : x = i
          · rw [e]; exact z
          · exact no x (by omega))
  unfold f_X1_isFirstOfItsKind
  exact loop j 0 F (by omega) (by omega) (fun x hx => by omega)
theorem p_isStored (hs : SpF S p) (P : Pt S n p N B) {q : Nat} (hq : q < kN N 8) : f_X9_isStored F S (p + 6) (nI q) = some (bI (isN N q = 1), S) := by
  obtain ⟨p1, p2, p3⟩ := P
  obtain ⟨-, g2, g3, -⟩ := p3 q hq
  unfold f_X9_isStored
  rw [if_neg (nI_pos (by omega)), p1, if_neg (nI_ge hq (by omega)), hs.r806_6, ob_some, e_at (by rw [hs.l10]; omega) (by rw [hs.l10]; omega), ob_some, g2]
  simp only [lt_eq]
  by_cases z : isN N q = 1
  · rw [if_pos z, if_neg g3, bI_t z]
  · rw [if_neg z, if_pos rfl, bI_f z]
theorem p_bytesOf (hs : SpF S p) (P : Pt S n p N B) {q : Nat} (hq : q < kN N 8) : ∃ j, f_X9_bytesOf F S (p + 6) (nI q) = some (some j, S) ∧ dyn n j 2 ∧ sr S 0 j = some (j + 1) ∧ ln S (j + 1) = kN N (4771 + 3 * q) ∧ si S 1 j = nI (kN N (4771 + 3 * q)) ∧ ∀ k, k < kN N (4771 + 3 * q) → ai S (j + 1) k = B (200 * q + k) := by
  obtain ⟨p1, p2, p3⟩ := P
  obtain ⟨⟨j, g1, g2, g3, g4, g5, g6⟩, -⟩ := p3 q hq
  refine ⟨j, ?_, g2, g3, g4, g5, g6⟩
  unfold f_X9_bytesOf f_X9_bytesOf_L31
  rw [if_neg (nI_pos (by omega)), p1, if_neg (nI_ge hq (by omega)), hs.r803_6, ob_some, hs.l7, if_neg (nI_ge (by omega) (by omega)), ob_some, hs.l7, cki_nI (by omega) (by omega), nI_clamp (by omega), g1, os_s, os_s]
theorem e_partNo (hx : FxF S) (hs : SpF S p) (hi : Inp S f L) (c : Cut S f L) (hg : gdC f L) (P : Pt S n p N B) {j : Nat} (hj : j < kC f L) (hF : 1000 ≤ F) : f_X9_numberOf F S (p + 6) 24 (nI j) = some (nbI N B f L j, S) := by
  have g1 := hg.1
  obtain ⟨m1, m2⟩ := hg.2 j hj
  obtain ⟨q1, q2, -, -⟩ := cC_lt (f := f) (L := L) hj
  have q5 := cC_le (f := f) (L := L) hj
  have lj : cC f L j + lC f L j ≤ L := by unfold lC at m1 ⊢; omega
  have hL := hi.1
  have b8 := P.2.1
  have loop : ∀ d q fu, q + d = kN N 8 → d < fu → (∀ x, x < q → ¬ lkP N B f L j x) → f_X9_numberOf_L2 F fu S (p + 6) 24 (nI j) (nI q) = some (nbI N B f L j, S) := by
    intro d
    induction d with
    | zero =>
      intro q fu hq hfu no
      obtain ⟨fu, rfl⟩ : ∃ f', fu = f' + 1 := ⟨fu - 1, by omega⟩
      unfold f_X9_numberOf_L2
      rw [P.1, if_pos (nI_le (by omega) (by omega))]
      unfold nbI nbC
      rw [fnd_no (fun x hx => no x (by omega)), if_neg (by omega)]
    | succ d ih =>
      intro q fu hq hfu no
      obtain ⟨fu, rfl⟩ : ∃ f', fu = f' + 1 := ⟨fu - 1, by omega⟩
      have hq8 : q < kN N 8 := by omega
      obtain ⟨-, -, -, by8, bl1, bl2⟩ := P.2.2 q hq8
      have next : ¬ lkP N B f L j q → f_X9_numberOf_L33 F (fun a0 a1 a2 a3 a4 => f_X9_numberOf_L2 F fu a0 a1 a2 a3 a4) S (p + 6) 24 (nI j) (nI q) = some (nbI N B f L j, S) := by
        intro z
        unfold f_X9_numberOf_L33
        rw [lt_eq, nI_1]
        exact ih (q + 1) fu (by omega) (by omega) (fun x hx => by
          by_cases e : x = q
          · rw [e]; exact z
          · exact no x (by omega))
      unfold f_X9_numberOf_L2
      rw [P.1, if_neg (nI_ge (by omega) (by omega)), p_isStored hs P hq8, ob_some]
      simp only [lt_eq, eq_bI]
      by_cases z : isN N q = 1
      rotate_left
      · rw [if_neg z]
        exact next (fun y => z y.1)
      obtain ⟨o, o1, o2, o3, o4, o5, o6⟩ := p_bytesOf (F := F) hs P hq8
      have eq : f_X1_isEqualTo F S 24 o (nI j) = some (pI (lkP N B f L j q), S) := by
        unfold f_X1_isEqualTo f_X0_isRange
        rw [hx.r100_24, ob_some, hx.r101_24, ob_some, e_at (by rw [hx.l25]; omega) (by rw [hx.l25]; omega), ob_some, (c.2 j hj).1]
        simp only [lt_eq]
        rw [hx.r102_24, ob_some, e_at (by rw [hx.l26]; omega) (by rw [hx.l26]; omega), ob_some, (c.2 j hj).2]
        simp only [lt_eq]
        rw [nI_sub (by omega), show cC f L (j + 1) - 1 - cC f L j = lC f L j from rfl, o5]
        by_cases z2 : kN N (4771 + 3 * q) = lC f L j
        rotate_left
        · rw [if_neg (fun y => z2 ((nI_eq (by omega) (by omega)).mp y).symm), ob_some]
          simp only [lt_eq]
          rw [ck_t (Or.inl True.intro), pI_f (fun y => z2 y.2.1)]
        rw [if_pos (by rw [z2])]
        have bl : ∀ d k fu2, k + d = lC f L j → d < fu2 → (∀ x, x < k → B (200 * q + x) = f (cC f L j + x)) → f_X0_isRange_L15 F fu2 S o 20 (nI (cC f L j)) (nI k) = some (pI (lkP N B f L j q), S) := by
          intro d
          induction d with
          | zero =>
            intro k fu2 hk hfu2 no2
            obtain ⟨fu2, rfl⟩ : ∃ f', fu2 = f' + 1 := ⟨fu2 - 1, by omega⟩
            unfold f_X0_isRange_L15
            rw [o5, if_pos (nI_le (by omega) (by omega)), pI_t ⟨z, z2, fun x hx => no2 x (by omega)⟩]
          | succ d ihb =>
            intro k fu2 hk hfu2 no2
            obtain ⟨fu2, rfl⟩ : ∃ f', fu2 = f' + 1 := ⟨fu2 - 1, by omega⟩
            unfold f_X0_isRange_L15
            rw [o5, if_neg (nI_ge (by omega) (by omega)), e_byteAt F o3 o5 (by omega) (by omega) (by omega), ob_some, o6 k (by omega)]
            simp only [lt_eq]
            rw [nI_add, inB hx hi (by omega), ob_some]
            simp only [lt_eq]
            by_cases y : B (200 * q + k) = f (cC f L j + k)
            · rw [if_pos (by rw [y]), nI_1]
              exact ihb (k + 1) fu2 (by omega) (by omega) (fun x hx => by
                by_cases e : x = k
                · rw [e]; exact y
                · exact no2 x (by omega))
            · rw [if_neg (fun w => y ((i8_inj (by8 k (by omega)) (hi.2.2 _ (by omega)).2).mp w)), pI_f (fun w => y (w.2.2 k (by omega)))]
        have bl0 : f_X0_isRange_L15 F F S o 20 (nI (cC f L j)) 0 = some (pI (lkP N B f L j q), S) := bl (lC f L j) 0 F (by omega) (by omega) (fun x hx => by omega)
        rw [bl0, ob_some]
        simp only [lt_eq]
        rw [ck_t (pI01 _)]
      rw [if_pos z, o1, ob_some]
      simp only [lt_eq]
      rw [ob_some, eq, ob_some]
      simp only [lt_eq]
      by_cases z3 : lkP N B f L j q
      · rw [pI_t z3, if_neg (show ¬ (1 : Int32) = 0 by decide)]
        unfold nbI nbC
        rw [fnd_eq hq8 z3 no, if_pos hq8]
      · rw [pI_f z3, if_pos rfl]
        exact next z3
  unfold f_X9_numberOf
  exact loop (kN N 8) 0 F (by omega) (by omega) (fun x hx => by omega)
theorem e_bytesWith (hx : FxF S) (C : Cl0 S n p N B) (hs : SpF S p) (hi : Inp S f L) (c : Cut S f L) (hg : gdC f L) (hF : 1000 ≤ F) : f_X9_bytesWith F S (p + 6) 24 = some (bwN N B f L (kC f L), S) := by
  have g1 := hg.1
  have b8 := C.wb.n8.2
  have loop : ∀ d j fu, j + d = kC f L → d < fu → f_X9_bytesWith_L8 F fu S (p + 6) 24 (bwN N B f L j) (nI j) = some (bwN N B f L (kC f L), S) := by
    intro d
    induction d with
    | zero =>
      intro j fu hj hfu
      obtain ⟨fu, rfl⟩ : ∃ f', fu = f' + 1 := ⟨fu - 1, by omega⟩
      have ej : j = kC f L := by omega
      subst ej
      unfold f_X9_bytesWith_L8
      rw [c.1, if_pos (nI_le (Nat.le_refl _) (by omega))]
    | succ d ih =>
      intro j fu hj hfu
      obtain ⟨fu, rfl⟩ : ∃ f', fu = f' + 1 := ⟨fu - 1, by omega⟩
      have ih' := ih (j + 1) fu (by omega) (by omega)
      rw [bwN_s] at ih'
      unfold f_X9_bytesWith_L8
      rw [c.1, if_neg (nI_ge (by omega) (by omega)), e_isFirst hx hi c hg (by omega) hF, ob_some]
      simp only [lt_eq]
      unfold f_X9_bytesWith_L42
      by_cases z : fsC f L j
      rotate_left
      · rw [pI_f z, if_pos rfl, lt_eq, nI_1]
        rw [pif_f (fun y => z y.1)] at ih'
        exact ih'
      rw [pI_t z, if_neg (show ¬ (1 : Int32) = 0 by decide), e_partNo hx hs hi c hg C.pt (by omega) hF, ob_some]
      simp only [lt_eq]
      by_cases z2 : nbC N B f L j < kN N 8
      · rw [if_pos (fun y => ((nbI_n1 b8).mp y) z2), nI_1]
        rw [pif_f (fun y => y.2 z2)] at ih'
        exact ih'
      · rw [if_neg (fun y => y ((nbI_n1 b8).mpr z2)), e_sizeAt hx c hg (by omega), ob_some]
        simp only [lt_eq]
        rw [nI_1]
        rw [pif_t ⟨z, z2⟩] at ih'
        exact ih'
  unfold f_X9_bytesWith
  rw [e_byteSum C hs hF, ob_some]
  simp only [lt_eq]
  exact loop (kC f L) 0 F (by omega) (by omega)
end Cs
