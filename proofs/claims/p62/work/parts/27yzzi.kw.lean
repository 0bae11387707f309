/-! keywords: both sides -/
def txL (j : Nat) : Nat := kwL.getD j 0
def txT (j k : Nat) : Int32 := (kwB.getD j []).getD k 0
theorem tx_1 : ∀ j, j < 15 → 1 ≤ txL j ∧ txL j ≤ 7 := by decide
theorem tx_let : ∀ j, j < 15 → ∀ k, k < txL j → letB (txT j k) := show ∀ j, j < 15 → ∀ k, k < txL j → 97 ≤ txT j k ∧ txT j k ≤ 122 by decide
theorem kw_tx : ∀ j, j < 15 → kwW.getD j 0 = lN (wv (txT j) (txL j)) := by decide +kernel
theorem kw_inj : ∀ a, a < 15 → ∀ b, b < 15 → kwW.getD a 0 = kwW.getD b 0 → a = b := by decide +kernel
theorem kwK_some {w : Int64} {j : Nat} : ∀ c, c ≤ 15 → (kwK w c = some j ↔ j < c ∧ kwW.getD j 0 = w) := by
  intro c
  induction c with
  | zero => intro _; exact ⟨fun y => (by cases y), fun y => by omega⟩
  | succ c ih =>
    intro hc
    have st : kwK w (c + 1) = if lg_cmp (kwW.getD c 0) w = 0 then some c else kwK w c := by
      unfold kwK
      rw [runN_s, Nat.zero_add]
    rw [st]
    by_cases z : lg_cmp (kwW.getD c 0) w = 0
    · rw [if_pos z]
      have e := (lg_cmp_eq _ _).mp z
      constructor
      · intro y
        obtain rfl := Option.some.inj y
        exact ⟨by omega, e⟩
      · rintro ⟨y1, y2⟩
        rw [kw_inj c (by omega) j (by omega) (e.trans y2.symm)]
    · rw [if_neg z, ih (by omega)]
      constructor
      · rintro ⟨y1, y2⟩; exact ⟨by omega, y2⟩
      · rintro ⟨y1, y2⟩
        refine ⟨?_, y2⟩
        by_cases y : j = c
        · rw [y] at y2; exact absurd ((lg_cmp_eq _ _).mpr y2) z
        · omega
/-- the token at s is a text -/
def isTx (f : Nat → Int32) (L s j : Nat) : Prop := kdK f L s = 1 ∧ enK f L s - s = txL j ∧ ∀ k, k < txL j → f (s + k) = txT j k
theorem by_let {a : Int32} (h : a.toInt8.toInt32 = a) : letB (a &&& 255) → a &&& 255 = a := by
  obtain ⟨n, n1, n2⟩ := i8_ex a h
  rw [n2]
  exact (show ∀ n, n < 256 → 97 ≤ (Int8.ofNat n).toInt32 &&& 255 ∧ (Int8.ofNat n).toInt32 &&& 255 ≤ 122 → (Int8.ofNat n).toInt32 &&& 255 = (Int8.ofNat n).toInt32 by decide +kernel) n n1
section Kw
variable {F : Nat} {S : St} {f : Nat → Int32} {L n s : Nat}
/-- a word's letters -/
theorem tk_let (h8 : ∀ i, i < L → (f i).toInt8.toInt32 = f i) (hk : kdK f L s = 1) : s < L ∧ s < enK f L s ∧ enK f L s ≤ L ∧ ∀ x, s ≤ x → x < enK f L s → letB (byK f x) ∧ byK f x = f x := by
  by_cases z : L ≤ s
  · rw [(tk_0 z).1] at hk; omega
  have z' : s < L := by omega
  by_cases a : letB (byK f s)
  rotate_left
  · by_cases b : digB (byK f s)
    · rw [(tk_2 z' a b).1] at hk; omega
    · rw [(tk_3 z' a b).1] at hk; omega
  rw [(tk_1 z' a).2]
  obtain ⟨w1, w2⟩ := weK_le (f := f) (p := s) (L := L) (by omega)
  obtain ⟨-, -, pre, at_⟩ := fnd_sp (P := fun k => ¬ letB (byK f k)) (L - s) s
  have pre' : ∀ x, s ≤ x → x < weK f L s → letB (byK f x) := fun x h1 h2 => Classical.not_not.mp (pre x h1 h2)
  have gt : s < weK f L s := by
    rcases Nat.lt_or_ge s (weK f L s) with y | y
    · exact y
    · have e : weK f L s = s := by omega
      unfold weK at e
      exact absurd a (by have := at_ (by omega); rw [e] at this; exact this)
  exact ⟨z', gt, w2, fun x h1 h2 => ⟨pre' x h1 h2, by_let (h8 x (by omega)) (pre' x h1 h2)⟩⟩
theorem wEnc_c {g h : Nat → Int32} {c : Nat} (e : ∀ k, k < c → g k = h k) : wEnc g c = wEnc h c := by
  unfold wEnc
  rw [wv_c e]
/-- the class's keyword of a token -/
theorem kw_iff (h8 : ∀ i, i < L → (f i).toInt8.toInt32 = f i) (t : TokC f L S n s) {j : Nat} (hj : j < 15) : sr S 508 n = some j ↔ isTx f L s j := by
  obtain ⟨-, -, -, -, -, t1, t2, -, -⟩ := t
  by_cases hk : kdK f L s = 1
  rotate_left
  · rw [t2 hk]
    exact ⟨fun y => (by cases y), fun y => absurd y.1 hk⟩
  obtain ⟨l1, l2, l3, l4⟩ := tk_let h8 hk
  rw [(t1 hk).2, kwK_some 15 (Nat.le_refl _), wEnc_c (h := fun k => f (s + k)) (fun k hk' => (l4 (s + k) (by omega) (by omega)).2), kw_tx j hj]
  have let2 : ∀ k, k < enK f L s - s → letB (f (s + k)) := fun k hk' => by
    have := l4 (s + k) (by omega) (by omega)
    rw [← this.2]; exact this.1
  obtain ⟨x1, x2⟩ := tx_1 j hj
  have tl := tx_let j hj
  have tb := wv_b (f := txT j) (c := txL j) (by omega) tl
  unfold isTx wEnc
  by_cases c10 : enK f L s - s ≤ 10
  · rw [if_pos c10]
    have wb := wv_b c10 let2
    rw [lN_inj (by omega) (by omega)]
    constructor
    · rintro ⟨-, y⟩
      obtain ⟨y1, y2⟩ := wv_inj tl let2 y
      exact ⟨hk, y1.symm, fun k h => (y2 k h).symm⟩
    · rintro ⟨-, y1, y2⟩
      refine ⟨hj, ?_⟩
      rw [y1]
      exact wv_c (fun k h => (y2 k h).symm)
  · rw [if_neg c10]
    exact ⟨fun y => absurd y.2 (lN_m1 (by omega)), fun y => by have := y.2.1; omega⟩
end Kw
