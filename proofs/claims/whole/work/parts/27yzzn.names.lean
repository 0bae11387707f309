/-! names: both sides -/
def isNm (f : Nat → Int32) (L s : Nat) : Prop := kdK f L s = 1 ∧ (∀ j, j < 15 → ¬ isTx f L s j) ∧ enK f L s - s ≤ 6
theorem p27_6 : (27 : Nat) ^ 6 = 387420489 := by decide
section Nm
variable {F : Nat} {S : St} {f : Nat → Int32} {L n s : Nat}
theorem e_isNm (h8 : ∀ i, i < L → (f i).toInt8.toInt32 = f i) (t : TokC f L S n s) : f_X6_isName F S n = some (pI (isNm f L s), S) := by
  have kb := kd_le (f := f) (L := L) (s := s)
  have kw : ∀ {j : Nat}, j < 15 → (sr S 508 n = some j ↔ isTx f L s j) := fun hj => kw_iff h8 t hj
  obtain ⟨t0, t1, t2, t3, t4, t5, t6, -, -⟩ := id t
  have k1 : nI (kdK f L s) = (1 : Int32) ↔ kdK f L s = 1 := nI_eq (b := 1) (by omega) (by omega)
  unfold f_X6_isName
  rw [t4]
  by_cases hk : kdK f L s = 1
  rotate_left
  · rw [if_pos (fun y => hk (k1.mp y)), pI_f (fun y => hk y.1)]
  rw [if_neg (fun y => y (k1.mpr hk))]
  have s8 := (t5 hk).2
  cases e : sr S 508 n with
  | some j =>
    rw [if_pos (fun y => by cases y)]
    rw [e] at s8
    have hj := ((kwK_some 15 (Nat.le_refl _)).mp s8.symm).1
    rw [pI_f (fun y => y.2.1 j hj ((kw hj).mp e))]
  | none =>
    rw [if_neg (fun y => y rfl), (t5 hk).1]
    obtain ⟨l1, l2, l3, l4⟩ := tk_let h8 hk
    have lets : ∀ k, k < enK f L s - s → letB (byK f (s + k)) := fun k h => (l4 (s + k) (by omega) (by omega)).1
    have no : ∀ j, j < 15 → ¬ isTx f L s j := fun j hj y => by
      have := (kw hj).mpr y
      rw [e] at this
      cases this
    unfold wEnc
    by_cases c10 : enK f L s - s ≤ 10
    rotate_left
    · rw [if_neg c10, if_pos (by decide), pI_f (fun y => by have := y.2.2; omega)]
    have wb := wv_b c10 lets
    obtain ⟨c, hc⟩ : ∃ c, enK f L s - s = c + 1 := ⟨enK f L s - s - 1, by omega⟩
    have ge := wv_ge (f := fun k => byK f (s + k)) (c := c) (fun k h => lets k (by omega))
    have lt := wv_lt (f := fun k => byK f (s + k)) (c := c + 1) (fun k h => lets k (by omega))
    have pp : 0 < 27 ^ c := Nat.pow_pos (by omega)
    rw [if_pos c10]
    rw [hc] at wb ⊢
    have g1 : ¬ lg_cmp (lN (wv (fun k => byK f (s + k)) (c + 1))) 0 ≤ 0 := fun y => by
      have z : lN (wv (fun k => byK f (s + k)) (c + 1)) ≤ lN 0 := (lg_cmp_le _ _).mp y
      rw [Int64.le_iff_toInt_le, lN_t (by omega), lN_t (by omega)] at z
      omega
    rw [if_neg g1]
    by_cases h6 : c + 1 ≤ 6
    · have : 27 ^ (c + 1) ≤ 27 ^ 6 := Nat.pow_le_pow_right (by omega) h6
      rw [p27_6] at this
      rw [if_neg (fun y => by
        have z : lN 387420489 ≤ lN (wv (fun k => byK f (s + k)) (c + 1)) := (lg_cmp_ge _ _).mp y
        rw [Int64.le_iff_toInt_le, lN_t (by omega), lN_t (by omega)] at z
        omega), pI_t ⟨hk, no, by omega⟩]
    · have : 27 ^ 6 ≤ 27 ^ c := Nat.pow_le_pow_right (by omega) (by omega)
      rw [p27_6] at this
      rw [if_pos ((lg_cmp_ge _ _).mpr (by
        show lN 387420489 ≤ _
        rw [Int64.le_iff_toInt_le, lN_t (by omega), lN_t (by omega)]
        omega)), pI_f (fun y => by have := y.2.2; omega)]
/-- the model -/
theorem g_isKw (g : GdM f L s S) (hF : 1000 ≤ F) : f_X11_isKeyword F S 197 = some (pI (∃ j, j < 15 ∧ isTx f L s j), S) := by
  have t : ∀ j, j < 15 → f_X11_isText F S 197 j = some (pI (isTx f L s j), S) := fun j hj => g_isText g hj hF
  unfold f_X11_isKeyword f_X11_isKeyword_L72 f_X11_isKeyword_L77
  rw [t 0 (by omega), ob_some]
  simp only [lt_eq]
  by_cases h0 : isTx f L s 0
  · rw [pI_t h0, if_pos (show ¬ (1 : Int32) = 0 by decide), if_pos (show ¬ (1 : Int32) = 0 by decide), pI_t ⟨0, by omega, h0⟩]
  rw [pI_f h0, if_neg (fun y => y rfl)]
  rw [t 1 (by omega), ob_some]
  simp only [lt_eq]
  by_cases h1 : isTx f L s 1
  · rw [pI_t h1, if_pos (show ¬ (1 : Int32) = 0 by decide), if_pos (show ¬ (1 : Int32) = 0 by decide), pI_t ⟨1, by omega, h1⟩]
  rw [pI_f h1, if_neg (fun y => y rfl)]
  rw [t 2 (by omega), ob_some]
  simp only [lt_eq]
  by_cases h2 : isTx f L s 2
  · rw [pI_t h2, if_pos (show ¬ (1 : Int32) = 0 by decide), if_pos (show ¬ (1 : Int32) = 0 by decide), pI_t ⟨2, by omega, h2⟩]
  rw [pI_f h2, if_neg (fun y => y rfl)]
  rw [t 3 (by omega), ob_some]
  simp only [lt_eq]
  by_cases h3 : isTx f L s 3
  · rw [pI_t h3, if_pos (show ¬ (1 : Int32) = 0 by decide), if_pos (show ¬ (1 : Int32) = 0 by decide), pI_t ⟨3, by omega, h3⟩]
  rw [pI_f h3, if_neg (fun y => y rfl)]
  rw [t 4 (by omega), ob_some]
  simp only [lt_eq]
  by_cases h4 : isTx f L s 4
  · rw [pI_t h4, if_pos (show ¬ (1 : Int32) = 0 by decide), if_pos (show ¬ (1 : Int32) = 0 by decide), pI_t ⟨4, by omega, h4⟩]
  rw [pI_f h4, if_neg (fun y => y rfl)]
  rw [t 5 (by omega), ob_some]
  simp only [lt_eq]
  by_cases h5 : isTx f L s 5
  · rw [pI_t h5, if_pos (show ¬ (1 : Int32) = 0 by decide), if_pos (show ¬ (1 : Int32) = 0 by decide), pI_t ⟨5, by omega, h5⟩]
  rw [pI_f h5, if_neg (fun y => y rfl)]
  rw [t 6 (by omega), ob_some]
  simp only [lt_eq]
  by_cases h6 : isTx f L s 6
  · rw [pI_t h6, if_pos (show ¬ (1 : Int32) = 0 by decide), if_pos (show ¬ (1 : Int32) = 0 by decide), pI_t ⟨6, by omega, h6⟩]
  rw [pI_f h6, if_neg (fun y => y rfl)]
  rw [t 7 (by omega), ob_some]
  simp only [lt_eq]
  by_cases h7 : isTx f L s 7
  · rw [pI_t h7, if_neg (show ¬ (1 : Int32) = 0 by decide), if_pos (show ¬ (1 : Int32) = 0 by decide), pI_t ⟨7, by omega, h7⟩]
  rw [pI_f h7, if_pos rfl, if_neg (fun y => y True.intro)]
  rw [t 8 (by omega), ob_some]
  simp only [lt_eq]
  by_cases h8 : isTx f L s 8
  · rw [pI_t h8, if_pos (show ¬ (1 : Int32) = 0 by decide), pI_t ⟨8, by omega, h8⟩]
  rw [pI_f h8, if_neg (fun y => y rfl)]
  rw [t 9 (by omega), ob_some]
  simp only [lt_eq]
  by_cases h9 : isTx f L s 9
  · rw [pI_t h9, if_pos (show ¬ (1 : Int32) = 0 by decide), pI_t ⟨9, by omega, h9⟩]
  rw [pI_f h9, if_neg (fun y => y rfl)]
  rw [t 10 (by omega), ob_some]
  simp only [lt_eq]
  by_cases h10 : isTx f L s 10
  · rw [pI_t h10, if_pos (show ¬ (1 : Int32) = 0 by decide), pI_t ⟨10, by omega, h10⟩]
  rw [pI_f h10, if_neg (fun y => y rfl)]
  rw [t 11 (by omega), ob_some]
  simp only [lt_eq]
  by_cases h11 : isTx f L s 11
  · rw [pI_t h11, if_pos (show ¬ (1 : Int32) = 0 by decide), pI_t ⟨11, by omega, h11⟩]
  rw [pI_f h11, if_neg (fun y => y rfl)]
  rw [t 12 (by omega), ob_some]
  simp only [lt_eq]
  by_cases h12 : isTx f L s 12
  · rw [pI_t h12, if_pos (show ¬ (1 : Int32) = 0 by decide), pI_t ⟨12, by omega, h12⟩]
  rw [pI_f h12, if_neg (fun y => y rfl)]
  rw [t 13 (by omega), ob_some]
  simp only [lt_eq]
  by_cases h13 : isTx f L s 13
  · rw [pI_t h13, if_pos (show ¬ (1 : Int32) = 0 by decide), pI_t ⟨13, by omega, h13⟩]
  rw [pI_f h13, if_neg (fun y => y rfl)]
  rw [t 14 (by omega), ob_some]
  simp only [lt_eq]
  by_cases h14 : isTx f L s 14
  · rw [pI_t h14, if_neg (show ¬ (1 : Int32) = 0 by decide), pI_t ⟨14, by omega, h14⟩]
  rw [pI_f h14, if_pos rfl, pI_f]
  rintro ⟨j, hj, y⟩
  rcases (by omega : j = 0 ∨ j = 1 ∨ j = 2 ∨ j = 3 ∨ j = 4 ∨ j = 5 ∨ j = 6 ∨ j = 7 ∨ j = 8 ∨ j = 9 ∨ j = 10 ∨ j = 11 ∨ j = 12 ∨ j = 13 ∨ j = 14) with rfl | rfl | rfl | rfl | rfl | rfl | rfl | rfl | rfl | rfl | rfl | rfl | rfl | rfl | rfl <;> contradiction
theorem g_check (g : GdM f L s S) (hF : 1000 ≤ F) : (isNm f L s → f_X11_checkName F S 197 = some S) ∧ (¬ isNm f L s → f_X11_checkName F S 197 = some (flM S s 1)) := by
  obtain ⟨t0, t1, t2, t3, t4, -, -⟩ := id g.2.2.1
  have hL := g.2.1.1
  have en := enK_le (f := f) t0
  have kb := kd_le (f := f) (L := L) (s := s)
  have k1 : nI (kdK f L s) = (1 : Int32) ↔ kdK f L s = 1 := nI_eq (b := 1) (by omega) (by omega)
  have fl : f_X11_checkName_L36 F S 197 = some (flM S s 1) := by
    unfold f_X11_checkName_L36
    rw [g_errs g, ob_some]
  unfold f_X11_checkName
  rw [g_good g, ob_some]
  simp only [lt_eq]
  rw [if_neg (show ¬ (1 : Int32) = 0 by decide), t4, fl]
  by_cases hk : kdK f L s = 1
  rotate_left
  · rw [if_pos (fun y => hk (k1.mp y))]
    exact ⟨fun y => absurd y.1 hk, fun _ => rfl⟩
  rw [if_neg (fun y => y (k1.mpr hk)), t3, t2, nI_sub (by omega)]
  by_cases h6 : enK f L s - s ≤ 6
  rotate_left
  · rw [if_pos (show (6 : Int32) < nI (enK f L s - s) from nI_lt (a := 6) (by omega) (by omega))]
    exact ⟨fun y => absurd y.2.2 h6, fun _ => rfl⟩
  rw [if_neg (show ¬ (6 : Int32) < nI (enK f L s - s) from nI_nlt (a := 6) h6 (by omega)), g_isKw g hF, ob_some]
  simp only [lt_eq]
  by_cases z : ∃ j, j < 15 ∧ isTx f L s j
  · rw [pI_t z, if_neg (show ¬ (1 : Int32) = 0 by decide)]
    obtain ⟨j, j1, j2⟩ := z
    exact ⟨fun y => absurd j2 (y.2.1 j j1), fun _ => fl⟩
  · rw [pI_f z, if_pos rfl]
    exact ⟨fun _ => rfl, fun y => absurd ⟨hk, fun j hj t => z ⟨j, hj, t⟩, h6⟩ y⟩
end Nm
