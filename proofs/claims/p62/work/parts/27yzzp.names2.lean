section N2
variable {F : Nat} {S : St} {f D : Nat → Int32} {L n s r : Nat}
theorem lk_lt {p i : Nat} (h : lkP4 D f L s p = some i) : i < kN D (3 + p) := (fst_lt h).1
theorem enc_n : encO none = -1 := rfl
theorem enc_s (i : Nat) : encO (some i) = nI i := rfl
theorem kM_le (cn : cnD D) {p : Nat} (hp : p < 4) : kN D (3 + p) ≤ 10 := by
  obtain ⟨c3, c4, c5, c6⟩ := cn
  rcases (by omega : p = 0 ∨ p = 1 ∨ p = 2 ∨ p = 3) with rfl | rfl | rfl | rfl
  · have := c3.2; show kN D 3 ≤ 10; omega
  · have := c4.2; show kN D 4 ≤ 10; omega
  · have := c5.2; show kN D 5 ≤ 10; omega
  · have := c6.2; show kN D 6 ≤ 10; omega
theorem enc_m1 (cn : cnD D) {p : Nat} (hp : p < 4) : encO (lkP4 D f L s p) = -1 ↔ lkP4 D f L s p = none := by
  have := kM_le cn hp
  cases e : lkP4 D f L s p with
  | none => exact ⟨fun _ => rfl, fun _ => rfl⟩
  | some i =>
    have := lk_lt e
    exact ⟨fun y => absurd (show (0 : Int32) ≤ nI i from nI_le (a := 0) (by omega) (by omega)) (by rw [show nI i = -1 from y]; decide), fun y => by cases y⟩
/-- the class -/
theorem e_takeNew {p q : Nat} (hp : p < 4) (hq : q < 4) (hx : FxF S) (hi : Inp S f L) (hn : 197 ≤ n) (h5 : sr S 500 n = some 20) (t : TokC f L S n s) (R : CR S r D) (cn : cnD D) (hF : 10000 ≤ F) :
    (isNm f L s → lkP4 D f L s p = none → lkP4 D f L s q = none → ∃ T, f_X6_takeNewName F S n (r + kdQ p) (r + kdQ q) = some (sl S 507 n, T) ∧ PaF n S T ∧ TokC f L T n (nxK f L s)) ∧
    (isNm f L s → ¬ (lkP4 D f L s p = none ∧ lkP4 D f L s q = none) → f_X6_takeNewName F S n (r + kdQ p) (r + kdQ q) = some (0, flC S n s 3)) ∧ (¬ isNm f L s → f_X6_takeNewName F S n (r + kdQ p) (r + kdQ q) = some (0, flC S n s 1)) := by
  have h8 : ∀ i, i < L → (f i).toInt8.toInt32 = f i := fun i h => (hi.2.2 i h).2
  have l39 : f_X6_takeNewName_L39 F S n = some (0, flC S n s 3) := by
    unfold f_X6_takeNewName_L39
    rw [e_fail t, ob_some]
    rfl
  unfold f_X6_takeNewName
  rw [e_isNm h8 t, ob_some]
  simp only [lt_eq]
  refine ⟨fun nm a b => ?_, fun nm a => ?_, fun nm => ?_⟩
  · obtain ⟨T, t1, t2, t3⟩ := e_nextT (F := F) hx hi hn h5 t hF
    rw [pI_t nm, if_pos (show ¬ (1 : Int32) = 0 by decide), e_lookP hp R cn h8 nm t (by omega), ob_some]
    simp only [lt_eq]
    rw [if_neg (fun y => y ((enc_m1 cn hp).mpr a)), e_lookP hq R cn h8 nm t (by omega), ob_some]
    simp only [lt_eq]
    rw [if_pos ((enc_m1 cn hq).mpr b), t1, ob_some]
    exact ⟨T, rfl, t2, t3⟩
  · rw [pI_t nm, if_pos (show ¬ (1 : Int32) = 0 by decide), e_lookP hp R cn h8 nm t (by omega), ob_some]
    simp only [lt_eq]
    by_cases z : lkP4 D f L s p = none
    · rw [if_neg (fun y => y ((enc_m1 cn hp).mpr z)), e_lookP hq R cn h8 nm t (by omega), ob_some]
      simp only [lt_eq]
      rw [if_neg (fun y => a ⟨z, (enc_m1 cn hq).mp y⟩), l39]
    · rw [if_pos (fun y => z ((enc_m1 cn hp).mp y)), l39]
  · rw [pI_f nm, if_neg (fun y => y rfl), e_fail t, ob_some]
theorem e_takeKn {p : Nat} (hp : p < 4) (hx : FxF S) (hi : Inp S f L) (hn : 197 ≤ n) (h5 : sr S 500 n = some 20) (t : TokC f L S n s) (R : CR S r D) (cn : cnD D) (hF : 10000 ≤ F) :
    (∀ i, isNm f L s → lkP4 D f L s p = some i → ∃ T, f_X6_takeKnown F S n (r + kdQ p) = some (nI i, T) ∧ PaF n S T ∧ TokC f L T n (nxK f L s)) ∧
    (isNm f L s → lkP4 D f L s p = none → f_X6_takeKnown F S n (r + kdQ p) = some (-1, flC S n s 3)) ∧ (¬ isNm f L s → f_X6_takeKnown F S n (r + kdQ p) = some (-1, flC S n s 1)) := by
  have h8 : ∀ i, i < L → (f i).toInt8.toInt32 = f i := fun i h => (hi.2.2 i h).2
  have nmE := e_isNm (F := F) h8 t
  unfold f_X6_takeKnown
  rw [nmE, ob_some]
  simp only [lt_eq]
  refine ⟨fun i nm a => ?_, fun nm a => ?_, fun nm => ?_⟩
  · obtain ⟨T, t1, t2, t3⟩ := e_nextT (F := F) hx hi hn h5 t hF
    rw [pI_t nm, if_neg (show ¬ (1 : Int32) = 0 by decide), e_lookP hp R cn h8 nm t (by omega), ob_some]
    simp only [lt_eq]
    unfold f_X6_takeKnown_L19
    rw [if_pos (fun y => by have := (enc_m1 cn hp).mp y; rw [a] at this; cases this), t1, ob_some, a]
    exact ⟨T, rfl, t2, t3⟩
  · rw [pI_t nm, if_neg (show ¬ (1 : Int32) = 0 by decide), e_lookP hp R cn h8 nm t (by omega), ob_some]
    simp only [lt_eq]
    unfold f_X6_takeKnown_L19 f_X6_takeKnown_L38
    rw [if_neg (fun y => y ((enc_m1 cn hp).mpr a)), nmE, ob_some]
    simp only [lt_eq]
    rw [pI_t nm, if_neg (show ¬ (1 : Int32) = 0 by decide), e_fail t, ob_some]
  · rw [pI_f nm, if_pos rfl]
    unfold f_X6_takeKnown_L19 f_X6_takeKnown_L38
    rw [if_neg (fun y => y rfl), nmE, ob_some]
    simp only [lt_eq]
    rw [pI_f nm, if_pos rfl, e_fail t, ob_some]
end N2
