/-! a message's text, and how it is cut -/
theorem nb_s (f : Nat → Int32) (k : Nat) : nb f (k + 1) = if f k = 124 then nb f k + 1 else nb f k := rfl
theorem cw_s (f : Nat → Int32) (k : Nat) : cw f (k + 1) = if f k = 124 then updN (cw f k) (nb f k + 1) (k + 1) else cw f k := rfl
theorem nb_c {f g : Nat → Int32} : ∀ k, (∀ i, i < k → f i = g i) → nb f k = nb g k ∧ cw f k = cw g k := by
  intro k
  induction k with
  | zero => intro _; exact ⟨rfl, rfl⟩
  | succ k ih =>
    intro h
    obtain ⟨a, b⟩ := ih (fun i hi => h i (by omega))
    unfold nb cw
    rw [h k (by omega), a, b]
    exact ⟨rfl, rfl⟩
theorem nb_p {f : Nat → Int32} {a : Nat} : ∀ d, (∀ i, a ≤ i → i < a + d → ¬ f i = 124) → nb f (a + d) = nb f a ∧ cw f (a + d) = cw f a := by
  intro d
  induction d with
  | zero => intro _; exact ⟨rfl, rfl⟩
  | succ d ih =>
    intro h
    obtain ⟨x, y⟩ := ih (fun i h1 h2 => h i h1 (by omega))
    rw [← Nat.add_assoc, nb_s, cw_s, if_neg (h (a + d) (by omega) (by omega)), if_neg (h (a + d) (by omega) (by omega))]
    exact ⟨x, y⟩
theorem pt_bar : ∀ s, s < 6 → ∀ k, k < 8 → ¬ chL (ptL s) k = 124 := by decide
theorem pt_bar' {s : Nat} (hs : s < 6) {k : Nat} : ¬ chL (ptL s) k = 124 := by
  by_cases z : k < 8
  · exact pt_bar s hs k z
  · rw [chL_0 (by have := (ptL_b s hs).2; omega)]; decide
theorem pt_asc {s : Nat} (hs : s < 6) : ascL (ptL s) := cs_asc (x := 15 + s) (by omega)
theorem bar_asc : ascL [124] := fun c hc => by rw [List.mem_singleton] at hc; rw [hc]; exact (asc_tab 124 (by omega)).2.2.2.1
/-- the text with parts 0 .. i -/
def mtX (X : XS) (m : Nat) : Nat → List Int32
  | 0 => ptL (soX X m 0)
  | i + 1 => mtX X m i ++ ([124] ++ ptL (soX X m (i + 1)))
section Mt
variable {X : XS} {m : Nat}
theorem mt_s (i : Nat) : mtX X m (i + 1) = mtX X m i ++ ([124] ++ ptL (soX X m (i + 1))) := rfl
theorem sz_s (i : Nat) : szP X m (i + 1) = szP X m i + (ptL (soX X m i)).length := rfl
theorem mt_asc : ∀ i, ascL (mtX X m i) := by
  intro i
  induction i with
  | zero => exact pt_asc (soX_b X m 0)
  | succ i ih => exact asc_ap ih (asc_ap bar_asc (pt_asc (soX_b X m _)))
theorem sz_mono : ∀ d a, szP X m a ≤ szP X m (a + d) := by
  intro d
  induction d with
  | zero => intro a; exact Nat.le_refl _
  | succ d ih => intro a; rw [← Nat.add_assoc, sz_s]; exact Nat.le_trans (ih a) (Nat.le_add_right _ _)
theorem mt_len : ∀ i, (mtX X m i).length = szP X m (i + 1) + i := by
  intro i
  induction i with
  | zero => rw [sz_s]; show (ptL (soX X m 0)).length = 0 + _ + 0; omega
  | succ i ih =>
    rw [mt_s, List.length_append, ih, List.length_append, sz_s (i + 1)]
    show _ + (1 + _) = _
    omega
theorem mt_cut : ∀ i, nb (chL (mtX X m i)) (mtX X m i).length = i ∧ (∀ j, j ≤ i → cw (chL (mtX X m i)) (mtX X m i).length j = szP X m j + j) ∧ ∀ j, j ≤ i → ∀ k, k < (ptL (soX X m j)).length → chL (mtX X m i) (szP X m j + j + k) = chL (ptL (soX X m j)) k := by
  intro i
  induction i with
  | zero =>
    have p := nb_p (f := chL (ptL (soX X m 0))) (a := 0) (ptL (soX X m 0)).length (fun k _ _ => pt_bar' (soX_b X m 0))
    rw [Nat.zero_add] at p
    refine ⟨p.1, fun j hj => ?_, fun j hj k hk => ?_⟩
    · have : j = 0 := by omega
      subst this
      show cw (chL (ptL (soX X m 0))) (ptL (soX X m 0)).length 0 = 0
      rw [p.2]
      rfl
    · have : j = 0 := by omega
      subst this
      show chL (ptL (soX X m 0)) (0 + 0 + k) = _
      rw [show 0 + 0 + k = k by omega]
  | succ i ih =>
    obtain ⟨a, b, c⟩ := ih
    have so := soX_b X m (i + 1)
    obtain ⟨t, ht⟩ : ∃ t, t = mtX X m i := ⟨_, rfl⟩
    obtain ⟨p, hp⟩ : ∃ p, p = ptL (soX X m (i + 1)) := ⟨_, rfl⟩
    have lt : t.length = szP X m (i + 1) + i := by rw [ht]; exact mt_len i
    rw [mt_s, ← ht, ← hp]
    rw [← ht] at a b c
    obtain ⟨w, hw⟩ : ∃ w, w = t ++ ([124] ++ p) := ⟨_, rfl⟩
    have wl : w.length = t.length + 1 + p.length := by rw [hw, List.length_append, List.length_append]; show _ + (1 + _) = _; omega
    have low : ∀ k, k < t.length → chL w k = chL t k := fun k hk => by rw [hw]; exact chL_l hk
    have bar : chL w t.length = 124 := by
      have := chL_r (l1 := t) (r := [124] ++ p) 0
      rw [Nat.add_zero] at this
      rw [hw, this]
      rfl
    have hi : ∀ k, chL w (t.length + 1 + k) = chL p k := fun k => by
      rw [hw, Nat.add_assoc, chL_r (l1 := t)]
      exact chL_r (l1 := [124]) k
    rw [← hw]
    obtain ⟨e1, e2⟩ := nb_c (f := chL w) (g := chL t) t.length low
    have f1 : nb (chL w) (t.length + 1) = i + 1 := by
      rw [nb_s, if_pos bar, e1, a]
    have f2 : cw (chL w) (t.length + 1) = updN (cw (chL t) t.length) (i + 1) (t.length + 1) := by
      rw [cw_s, if_pos bar, e1, a, e2]
    obtain ⟨g1, g2⟩ := nb_p (f := chL w) (a := t.length + 1) p.length (fun k h1 h2 => by
      have := hi (k - (t.length + 1))
      rw [show t.length + 1 + (k - (t.length + 1)) = k by omega] at this
      rw [this, hp]
      exact pt_bar' so)
    refine ⟨by rw [wl, g1, f1], fun j hj => ?_, fun j hj k hk => ?_⟩
    · rw [wl, g2, f2]
      by_cases z : j = i + 1
      · rw [z, updN_e]; omega
      · rw [updN_n z]; exact b j (by omega)
    · by_cases z : j = i + 1
      · rw [z, show szP X m (i + 1) + (i + 1) + k = t.length + 1 + k by omega, hi, hp]
      · have mo := sz_mono (X := X) (m := m) (i - j) (j + 1)
        rw [show j + 1 + (i - j) = i + 1 by omega, sz_s j] at mo
        rw [low _ (by omega)]
        exact c j (by omega) k hk
/-- the whole text -/
def mtL (X : XS) (m : Nat) : List Int32 := mtX X m (paX X m - 1)
theorem mt_L : (mtL X m).length = siX X m + (paX X m - 1) := by
  have := (paX_b X m).1
  unfold mtL siX
  rw [mt_len, show paX X m - 1 + 1 = paX X m by omega]
theorem mt_L2 : (mtL X m).length ≤ 26 := by
  have := paX_b X m
  have := szP_b X m (paX X m)
  rw [mt_L]
  unfold siX
  omega
theorem mt_k : kC (chL (mtL X m)) (mtL X m).length = paX X m := by
  have := (paX_b X m).1
  unfold kC mtL
  rw [(mt_cut _).1]
  omega
theorem mt_c {j : Nat} (hj : j ≤ paX X m) : cC (chL (mtL X m)) (mtL X m).length j = szP X m j + j := by
  have pb := (paX_b X m).1
  have L := mt_L (X := X) (m := m)
  unfold siX at L
  have c := mt_cut (X := X) (m := m) (paX X m - 1)
  show updN (cw (chL (mtX X m (paX X m - 1))) (mtX X m (paX X m - 1)).length) (nb (chL (mtX X m (paX X m - 1))) (mtX X m (paX X m - 1)).length + 1) ((mtL X m).length + 1) j = _
  rw [c.1]
  by_cases z : j = paX X m
  · rw [z, show paX X m - 1 + 1 = paX X m by omega, updN_e]; omega
  · rw [updN_n (by omega)]; exact c.2.1 j (by omega)
theorem mt_l {j : Nat} (hj : j < paX X m) : lC (chL (mtL X m)) (mtL X m).length j = (ptL (soX X m j)).length := by
  unfold lC
  rw [mt_c (by omega), mt_c (by omega), sz_s]
  omega
theorem mt_f {j k : Nat} (hj : j < paX X m) (hk : k < (ptL (soX X m j)).length) : chL (mtL X m) (cC (chL (mtL X m)) (mtL X m).length j + k) = chL (ptL (soX X m j)) k := by
  rw [mt_c (by omega)]
  exact (mt_cut (X := X) (m := m) (paX X m - 1)).2.2 j (by omega) k hk
theorem mt_gd : gdC (chL (mtL X m)) (mtL X m).length := by
  have pb := (paX_b X m).2
  refine ⟨by rw [mt_k]; omega, fun j hj => ?_⟩
  rw [mt_k] at hj
  rw [mt_l hj]
  have := ptL_b _ (soX_b X m j)
  omega
theorem mt_szx : ∀ x, x ≤ paX X m → szC (chL (mtL X m)) (mtL X m).length x = szP X m x := by
  intro x
  induction x with
  | zero => intro _; rfl
  | succ x ih => intro hx; rw [szC_s, ih (by omega), mt_l (by omega), sz_s]
theorem mt_sz : szC (chL (mtL X m)) (mtL X m).length (kC (chL (mtL X m)) (mtL X m).length) = siX X m := by
  rw [mt_k]
  exact mt_szx _ (Nat.le_refl _)
theorem mt_ok : ascL (mtL X m) := mt_asc _
theorem siX_b : siX X m ≤ 24 := by
  have := paX_b X m
  have := szP_b X m (paX X m)
  unfold siX
  omega
theorem siX_1 : 1 ≤ siX X m := by
  have := paX_b X m
  have := szP_lo X m (paX X m)
  unfold siX
  omega
end Mt
