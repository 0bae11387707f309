/-! names: both sides -/
def isNm (f : Nat → Int32) (L s : Nat) : Prop := kdK f L s = 1 ∧ (∀ j, j < 15 → ¬ isTx f L s j) ∧ enK f L s - s ≤ 6
theorem p27_6 : (27 : Nat) ^ 6 = 387420489 := by decide
section Nm
variable {F : Nat} {S : St} {f : Nat → Int32} {L n s : Nat}
theorem e_isNm (h8 : ∀ i, i < L → (f i).toInt8.toInt32 = f i) (t : TokC f L S n s) : f_X6_isName F S n = some (pI (isNm f L s), S) := by
  have kb := kd_le (f := f) (L := L) (s := s)
  have kw : ∀ {j : Nat}, j < 15 → (sr S 508 n = some j ↔ isTx f L s j) := fun hj => kw_iff h8 t hj
  obtain ⟨t0, t1, t2, t3, t4, t5, t6, -, -⟩ := id t
  have k1 : nI (kdK f L s) = (1 : Int32) ↔ kdK f L s = 1 := nI_eq (b := 1) (by omega) (by omega)
  unfold f_X6_isName
  rw [t4]
  by_cases hk : kdK f L s = 1
  rotate_left
  · rw [if_pos (fun y => hk (k1.mp y)), pI_f (fun y => hk y.1)]
  rw [if_neg (fun y => y (k1.mpr hk))]
  have s8 := (t5 hk).2
  cases e : sr S 508 n with
  | some j =>
    rw [if_pos (fun y => by cases y)]
    rw [e] at s8
    have hj := ((kwK_some 15 (Nat.le_refl _)).mp s8.symm).1
    rw [pI_f (fun y => y.2.1 j hj ((kw hj).mp e))]
  | none =>
    rw [if_neg (fun y => y rfl), (t5 hk).1]
    obtain ⟨l1, l2, l3, l4⟩ := tk_let h8 hk
    have lets : ∀ k, k < enK f L s - s → letB (byK f (s + k)) := fun k h => (l4 (s + k) (by omega) (by omega)).1
    have no : ∀ j, j < 15 → ¬ isTx f L s j := fun j hj y => by
      have := (kw hj).mpr y
      rw [e] at this
      cases this
    unfold wEnc
    by_cases c10 : enK f L s - s ≤ 10
    rotate_left
    · rw [if_neg c10, if_pos (by decide), pI_f (fun y => by have := y.2.2; omega)]
    have wb := wv_b c10 lets
    obtain ⟨c, hc⟩ : ∃ c, enK f L s - s = c + 1 := ⟨enK f L s - s - 1, by omega⟩
    have ge := wv_ge (f := fun k => byK f (s + k)) (c := c) (fun k h => lets k (by omega))
    have lt := wv_lt (f := fun k => byK f (s + k)) (c := c + 1) (fun k h => lets k (by omega))
    have pp : 0 < 27 ^ c := Nat.pow_pos (by omega)
    rw [if_pos c10]
    rw [hc] at wb ⊢
    have g1 : ¬ lg_cmp (lN (wv (fun k => byK f (s + k)) (c + 1))) 0 ≤ 0 := fun y => by
      have z : lN (wv (fun k => byK f (s + k)) (c + 1)) ≤ lN 0 := (lg_cmp_le _ _).mp y
      rw [Int64.le_iff_toInt_le, lN_t (by omega), lN_t (by omega)] at z
      omega
    rw [if_neg g1]
    by_cases h6 : c + 1 ≤ 6
    · have : 27 ^ (c + 1) ≤ 27 ^ 6 := Nat.pow_le_pow_right (by omega) h6
      rw [p27_6] at this
      rw [if_neg (fun y => by
        have z : lN 387420489 ≤ lN (wv (fun k => byK f (s + k)) (c + 1)) := (lg_cmp_ge _ _).mp y
        rw [Int64.le_iff_toInt_le, lN_t (by omega), lN_t (by omega)] at z
        omega), pI_t ⟨hk, no, by omega⟩]
    · have : 27 ^ 6 ≤ 27 ^ c := Nat.pow_le_pow_right (by omega) (by omega)
      rw [p27_6] at this
      rw [if_pos ((lg_cmp_ge _ _).mpr (by
        show lN 387420489 ≤ _
        rw [Int64.le_iff_toInt_le, lN_t (by omega), lN_t (by omega)]
        omega)), pI_f (fun y => by have := y.2.2; omega)]
end Nm
