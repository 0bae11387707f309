/-! tokens are taken: both sides -/
noncomputable def nxK (f : Nat → Int32) (L s : Nat) : Nat := nbK f L (enK f L s)
def isSy (f : Nat → Int32) (L s : Nat) (c : Int32) : Prop := kdK f L s = 3 ∧ byK f s = c
/-- the number at s, as both sides see it -/
def isNu (f : Nat → Int32) (L s v : Nat) : Prop := kdK f L s = 2 ∧ v < 999999 ∧ ncK f s (enK f L s - s) = nI v ∧ numK f s (enK f L s - s) = nI v
/-- too great a number -/
def bigNu (f : Nat → Int32) (L s : Nat) : Prop := kdK f L s = 2 ∧ ∃ w, 999999 ≤ w ∧ w ≤ 10000000 ∧ ncK f s (enK f L s - s) = nI w ∧ numK f s (enK f L s - s) = nI 999999
def flC (S : St) (n s : Nat) (c : Int32) : St := ui (ui S 502 n c) 503 n (nI s)
theorem dig_nI {a : Int32} (h : a.toInt8.toInt32 = a) : digB (a &&& 255) → ∃ d, d < 10 ∧ a &&& 255 = nI (48 + d) := by
  obtain ⟨n, n1, n2⟩ := i8_ex a h
  rw [n2]
  intro hd
  have e := (show ∀ n, n < 256 → 48 ≤ (Int8.ofNat n).toInt32 &&& 255 ∧ (Int8.ofNat n).toInt32 &&& 255 ≤ 57 → 48 ≤ n ∧ n < 58 ∧ (Int8.ofNat n).toInt32 &&& 255 = nI n by decide +kernel) n n1 hd
  exact ⟨n - 48, by omega, by rw [e.2.2, show 48 + (n - 48) = n by omega]⟩
section Tk
variable {F : Nat} {S : St} {f : Nat → Int32} {L n s : Nat}
theorem tk_dig (hk : kdK f L s = 2) : s < L ∧ s < enK f L s ∧ enK f L s ≤ L ∧ ∀ x, s ≤ x → x < enK f L s → digB (byK f x) := by
  by_cases z : L ≤ s
  · rw [(tk_0 z).1] at hk; omega
  have z' : s < L := by omega
  by_cases a : letB (byK f s)
  · rw [(tk_1 z' a).1] at hk; omega
  by_cases b : digB (byK f s)
  rotate_left
  · rw [(tk_3 z' a b).1] at hk; omega
  rw [(tk_2 z' a b).2]
  obtain ⟨w1, w2⟩ := deK_le (f := f) (p := s) (L := L) (by omega)
  obtain ⟨-, -, pre, at_⟩ := fnd_sp (P := fun k => ¬ digB (byK f k)) (L - s) s
  have pre' : ∀ x, s ≤ x → x < deK f L s → digB (byK f x) := fun x h1 h2 => Classical.not_not.mp (pre x h1 h2)
  refine ⟨z', ?_, w2, pre'⟩
  rcases Nat.lt_or_ge s (deK f L s) with y | y
  · exact y
  · have e : deK f L s = s := by omega
    unfold deK at e
    exact absurd b (by have := at_ (by omega); rw [e] at this; exact this)
theorem nu_run (hd : ∀ k, ∃ d, k < L → d < 10 ∧ byK f (s + k) = nI (48 + d)) : ∀ c, c ≤ L → (∃ v, v < 999999 ∧ ncK f s c = nI v ∧ numK f s c = nI v) ∨ ∃ w, 999999 ≤ w ∧ w ≤ 10000000 ∧ ncK f s c = nI w ∧ numK f s c = nI 999999 := by
  intro c
  induction c with
  | zero => intro _; exact Or.inl ⟨0, by omega, rfl, rfl⟩
  | succ c ih =>
    intro hc
    obtain ⟨d, hd'⟩ := hd c
    obtain ⟨d1, d2⟩ := hd' (by omega)
    have st : ncK f s (c + 1) = if ncK f s c * 10 + (byK f (s + c) - 48) < 10000000 then ncK f s c * 10 + (byK f (s + c) - 48) else 10000000 := by
      unfold ncK
      rw [runN_s, Nat.zero_add]
    have sm : numK f s (c + 1) = if 10 * numK f s c + byK f (s + c) - 48 < 999999 then 10 * numK f s c + byK f (s + c) - 48 else 999999 := by
      unfold numK
      rw [runN_s, Nat.zero_add]
    have e1 : ∀ x, x ≤ 10000000 → nI x * 10 + (nI (48 + d) - 48) = nI (10 * x + d) := fun x hx => by
      rw [show (48 : Int32) = nI 48 from rfl, show (10 : Int32) = nI 10 from rfl, nI_sub (by omega), nI_mul, nI_add, show x * 10 + (48 + d - 48) = 10 * x + d by omega]
    have e2 : ∀ x, x ≤ 10000000 → 10 * nI x + nI (48 + d) - 48 = nI (10 * x + d) := fun x hx => by
      rw [show (48 : Int32) = nI 48 from rfl, show (10 : Int32) = nI 10 from rfl, nI_mul, nI_add, nI_sub (by omega), show 10 * x + (48 + d) - 48 = 10 * x + d by omega]
    rw [st, sm, d2]
    rcases ih (by omega) with ⟨v, v1, v2, v3⟩ | ⟨w, w1, w2, w3, w4⟩
    · rw [v2, v3, e1 v (by omega), e2 v (by omega), if_pos (show nI (10 * v + d) < (10000000 : Int32) from nI_lt (b := 10000000) (by omega) (by omega))]
      by_cases z : 10 * v + d < 999999
      · rw [if_pos (show nI (10 * v + d) < (999999 : Int32) from nI_lt (b := 999999) z (by omega))]
        exact Or.inl ⟨10 * v + d, z, rfl, rfl⟩
      · rw [if_neg (show ¬ nI (10 * v + d) < (999999 : Int32) from nI_nlt (b := 999999) (by omega) (by omega))]
        exact Or.inr ⟨10 * v + d, by omega, by omega, rfl, rfl⟩
    · rw [w3, w4, e1 w w2, e2 999999 (by omega), if_neg (show ¬ nI (10 * 999999 + d) < (999999 : Int32) from nI_nlt (b := 999999) (by omega) (by omega))]
      by_cases z : 10 * w + d < 10000000
      · rw [if_pos (show nI (10 * w + d) < (10000000 : Int32) from nI_lt (b := 10000000) z (by omega))]
        exact Or.inr ⟨10 * w + d, by omega, by omega, rfl, rfl⟩
      · rw [if_neg (show ¬ nI (10 * w + d) < (10000000 : Int32) from nI_nlt (b := 10000000) (by omega) (by omega))]
        exact Or.inr ⟨10000000, by omega, by omega, rfl, rfl⟩
theorem nu_cases (h8 : ∀ i, i < L → (f i).toInt8.toInt32 = f i) (hk : kdK f L s = 2) : (∃ v, isNu f L s v) ∨ bigNu f L s := by
  obtain ⟨l1, l2, l3, l4⟩ := tk_dig hk
  have := nu_run (f := f) (s := s) (L := enK f L s - s) (fun k => by
    by_cases z : k < enK f L s - s
    · obtain ⟨d, d1, d2⟩ := dig_nI (h8 (s + k) (by omega)) (l4 (s + k) (by omega) (by omega))
      exact ⟨d, fun _ => ⟨d1, d2⟩⟩
    · exact ⟨0, fun y => absurd y z⟩) (enK f L s - s) (Nat.le_refl _)
  rcases this with ⟨v, v1, v2, v3⟩ | ⟨w, w1⟩
  · exact Or.inl ⟨v, hk, v1, v2, v3⟩
  · exact Or.inr ⟨hk, w, w1⟩
/-- the class -/
theorem kw_lt (t : TokC f L S n s) : (sr S 508 n).getD 0 < 15 := by
  obtain ⟨-, -, -, -, -, t1, t2, -, -⟩ := t
  by_cases hk : kdK f L s = 1
  · rw [(t1 hk).2]
    cases e : kwK (wEnc (fun k => byK f (s + k)) (enK f L s - s)) 15 with
    | none => decide
    | some j => exact ((kwK_some 15 (Nat.le_refl _)).mp e).1
  · rw [t2 hk]; decide
theorem e_fail (t : TokC f L S n s) (c : Int32) : f_X6_fail F S n c = some (0, flC S n s c) := by
  unfold f_X6_fail flC
  simp only [lt_eq]
  rw [si_ui, if_neg (by omega), t.2.2.1]
theorem e_nextT (hx : FxF S) (hi : Inp S f L) (hn : 197 ≤ n) (h5 : sr S 500 n = some 20) (t : TokC f L S n s) (hF : 10000 ≤ F) : ∃ T, f_X6_nextToken F S n = some T ∧ PaF n S T ∧ TokC f L T n (nxK f L s) := e_next hx hi hn h5 t.2.1 t.2.2.2.1 hF
theorem e_take (hx : FxF S) (hi : Inp S f L) (hn : 197 ≤ n) (h5 : sr S 500 n = some 20) (t : TokC f L S n s) {j : Nat} (hj : j < 15) (hF : 10000 ≤ F) : (isTx f L s j → ∃ T, f_X6_take F S n j = some (1, T) ∧ PaF n S T ∧ TokC f L T n (nxK f L s)) ∧ (¬ isTx f L s j → f_X6_take F S n j = some (0, flC S n s 1)) := by
  have k := kw_iff (fun i h => (hi.2.2 i h).2) t hj
  constructor
  · intro y
    obtain ⟨T, t1, t2, t3⟩ := e_nextT (F := F) hx hi hn h5 t hF
    refine ⟨T, ?_, t2, t3⟩
    unfold f_X6_take
    rw [ck_t (kw_lt t), if_pos (k.mpr y), t1, ob_some]
  · intro y
    unfold f_X6_take
    rw [ck_t (kw_lt t), if_neg (fun z => y (k.mp z)), e_fail t, ob_some]
    simp only [lt_eq]
    rw [ck_t (Or.inl True.intro)]
theorem e_isSy (t : TokC f L S n s) (c : Int32) : f_X6_isSymbol F S n c = some (pI (isSy f L s c), S) := by
  obtain ⟨t0, -, -, -, t4, -, -, -, t8⟩ := t
  have kb : kdK f L s ≤ 3 := by
    by_cases z : L ≤ s
    · rw [(tk_0 z).1]; omega
    by_cases a : letB (byK f s)
    · rw [(tk_1 (by omega) a).1]; omega
    by_cases b : digB (byK f s)
    · rw [(tk_2 (by omega) a b).1]; omega
    · rw [(tk_3 (by omega) a b).1]; omega
  unfold f_X6_isSymbol
  rw [t4]
  by_cases h : kdK f L s = 3
  · rw [if_neg (fun y => y (by rw [h]; rfl)), t8 h]
    by_cases z : byK f s = c
    · rw [if_neg (fun y => y z), pI_t ⟨h, z⟩]
    · rw [if_pos z, pI_f (fun y => z y.2)]
  · rw [if_pos (show ¬ nI (kdK f L s) = (3 : Int32) from fun y => h ((nI_eq (b := 3) (by omega) (by omega)).mp y)), pI_f (fun y => h y.1)]
theorem e_takeSy (hx : FxF S) (hi : Inp S f L) (hn : 197 ≤ n) (h5 : sr S 500 n = some 20) (t : TokC f L S n s) (c : Int32) (hF : 10000 ≤ F) : (isSy f L s c → ∃ T, f_X6_takeSymbol F S n c = some (1, T) ∧ PaF n S T ∧ TokC f L T n (nxK f L s)) ∧ (¬ isSy f L s c → f_X6_takeSymbol F S n c = some (0, flC S n s 1)) := by
  unfold f_X6_takeSymbol
  rw [e_isSy t, ob_some]
  simp only [lt_eq]
  constructor
  · intro y
    obtain ⟨T, t1, t2, t3⟩ := e_nextT (F := F) hx hi hn h5 t hF
    rw [pI_t y, if_pos (show ¬ (1 : Int32) = 0 by decide), t1, ob_some]
    exact ⟨T, rfl, t2, t3⟩
  · intro y
    rw [pI_f y, if_neg (fun z => z rfl), e_fail t, ob_some]
    simp only [lt_eq]
    rw [ck_t (Or.inl True.intro)]
end Tk
