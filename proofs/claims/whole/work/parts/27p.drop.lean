/-! the class drops a message's parts -/
theorem SpF.frm {S T : St} {p : Nat} (h : SpF S p) (e1 : ∀ f i, sr T f i = sr S f i) (e2 : ln T = ln S) : SpF T p := ⟨fun q hq => by rw [e1]; exact h.1 q hq, fun q hq => by rw [e2]; exact h.2 q hq⟩
/-- more places make more that are counted, at most the count of those between -/
theorem cntP_lt {P Q : Nat → Prop} {b i : Nat} (hi : i < b) (hp : P i) (hq : ¬ Q i) (h : ∀ k, k < b → Q k → P k) : cntP Q b + 1 ≤ cntP P b := by
  have e : cntP P b = cntP (fun k => P k ∧ ¬ k = i) b + 1 := cntP_del hi hp (fun z => z.2 rfl) (fun k _ ne => ⟨fun y => ⟨y, ne⟩, fun y => y.1⟩)
  have l : ∀ c, c ≤ b → cntP Q c ≤ cntP (fun k => P k ∧ ¬ k = i) c := by
    intro c
    induction c with
    | zero => intro _; exact Nat.le_refl _
    | succ c ih =>
      intro hc
      rw [cntP_s, cntP_s]
      have := ih (by omega)
      by_cases z : Q c
      · rw [pif_t z, pif_t ⟨h c (by omega) z, fun y => hq (y ▸ z)⟩]; omega
      · rw [pif_f z]; omega
  have := l b (Nat.le_refl _)
  omega
theorem cntP_skip {P : Nat → Prop} {x : Nat} : ∀ d, (∀ q, x ≤ q → q < x + d → ¬ P q) → cntP P (x + d) = cntP P x := by
  intro d
  induction d with
  | zero => intro _; rfl
  | succ d ih =>
    intro h
    rw [← Nat.add_assoc, cntP_s, pif_f (h (x + d) (by omega) (by omega))]
    exact ih (fun q a b => h q a (by omega))
section Dr
variable {F : Nat} {S : St} {n p m j : Nat} {N : Nat → Int32}
/-- the least part above -/
theorem e_above {lo : Nat} {v : Int32} (h303 : sr S 303 j = some (j + 1)) (hl : ln S (j + 1) = manyN N m) (ha : ∀ i, i < manyN N m → ai S (j + 1) i = N (334 + 7 * m + i)) (h4 : manyN N m ≤ 4) (hc : ∀ i, i < manyN N m → N (334 + 7 * m + i) = nI (partN N m i) ∧ partN N m i < 480) (hv : ∀ y, y < 480 → (nI y ≤ v ↔ y < lo)) (hF : 1000 ≤ F) :
    ∃ r, f_X4_partAbove F S j v = some (r, S) ∧ ((r = -1 ∧ ∀ y, hasN N m y → y < lo) ∨ (∃ y, r = nI y ∧ y < 480 ∧ lo ≤ y ∧ hasN N m y ∧ ∀ z, hasN N m z → lo ≤ z → y ≤ z)) := by
  unfold f_X4_partAbove
  simp only [h303, ob_some, hl, lt_eq]
  have e := loopE (fun fu k (a : Int32) => f_X4_partAbove_L14 F fu S v a (j + 1) (nI (manyN N m)) (nI k)) (manyN N m)
    (fun k a => (a = -1 ∧ ∀ i, i < k → partN N m i < lo) ∨ (∃ y, a = nI y ∧ y < 480 ∧ lo ≤ y ∧ (∃ i, i < k ∧ partN N m i = y) ∧ ∀ i, i < k → lo ≤ partN N m i → y ≤ partN N m i))
    (fun b => b.2 = S ∧ ((b.1 = -1 ∧ ∀ y, hasN N m y → y < lo) ∨ (∃ y, b.1 = nI y ∧ y < 480 ∧ lo ≤ y ∧ hasN N m y ∧ ∀ z, hasN N m z → lo ≤ z → y ≤ z))) (fun fu a hI => ?_) (fun fu k a hk hI => ?_) F 0 (-1) (by omega) (by omega) (Or.inl ⟨rfl, fun i hi => by omega⟩)
  · obtain ⟨⟨r, S'⟩, b1, b2, b3⟩ := e
    dsimp only at b2 b3
    subst b2
    exact ⟨r, b1, b3⟩
  · refine ⟨(a, S), ?_, rfl, ?_⟩
    · unfold f_X4_partAbove_L14
      rw [if_pos (nI_le (Nat.le_refl _) (by omega))]
    · rcases hI with ⟨h1, h2⟩ | ⟨y, h1, h2, h3, h4, h5⟩
      · exact Or.inl ⟨h1, fun y ⟨i, i1, i2⟩ => by rw [← i2]; exact h2 i i1⟩
      · exact Or.inr ⟨y, h1, h2, h3, h4, fun z ⟨i, i1, i2⟩ hz => by rw [← i2] at hz ⊢; exact h5 i i1 hz⟩
  · refine Or.inr ?_
    obtain ⟨c1, c2⟩ := hc k hk
    have step : ∀ b : Int32, (if nI (partN N m k) ≤ v then b = a else if a = -1 then b = nI (partN N m k) else if a ≤ nI (partN N m k) then b = a else b = nI (partN N m k)) → f_X4_partAbove_L14 F (fu + 1) S v a (j + 1) (nI (manyN N m)) (nI k) = f_X4_partAbove_L14 F fu S v b (j + 1) (nI (manyN N m)) (nI (k + 1)) := by
      intro b hb
      conv => lhs; unfold f_X4_partAbove_L14
      rw [if_neg (nI_ge hk (by omega)), cki_nI (by rw [hl]; exact hk) (by rw [hl]; omega), nI_clamp (by omega), ha k hk, c1]
      simp only [lt_eq]
      unfold f_X4_partAbove_L44 f_X4_partAbove_L47
      rw [nI_1]
      simp only [lt_eq]
      by_cases z1 : nI (partN N m k) ≤ v
      · rw [if_pos z1] at hb ⊢; rw [hb]
      rw [if_neg z1] at hb ⊢
      by_cases z2 : a = -1
      · rw [if_pos z2] at hb ⊢; rw [hb]
      rw [if_neg z2] at hb ⊢
      by_cases z3 : a ≤ nI (partN N m k)
      · rw [if_pos z3] at hb ⊢; rw [hb]
      · rw [if_neg z3] at hb ⊢; rw [hb]
    by_cases z1 : nI (partN N m k) ≤ v
    · refine ⟨a, ?_, step a (by rw [if_pos z1])⟩
      have lk := (hv _ c2).mp z1
      rcases hI with ⟨h1, h2⟩ | ⟨y, h1, h2, h3, ⟨i, i1, i2⟩, h5⟩
      · refine Or.inl ⟨h1, fun i hi => ?_⟩
        rcases Nat.lt_or_ge i k with q | q
        · exact h2 i q
        · rw [show i = k by omega]; exact lk
      · refine Or.inr ⟨y, h1, h2, h3, ⟨i, by omega, i2⟩, fun i hi hz => ?_⟩
        rcases Nat.lt_or_ge i k with q | q
        · exact h5 i q hz
        · rw [show i = k by omega] at hz; omega
    have gk : lo ≤ partN N m k := by
      rcases Nat.lt_or_ge (partN N m k) lo with q | q
      · exact absurd ((hv _ c2).mpr q) z1
      · exact q
    rcases hI with ⟨h1, h2⟩ | ⟨y, h1, h2, h3, ⟨i, i1, i2⟩, h5⟩
    · refine ⟨nI (partN N m k), Or.inr ⟨_, rfl, c2, gk, ⟨k, by omega, rfl⟩, fun i hi hz => ?_⟩, step _ (by rw [if_neg z1, if_pos h1])⟩
      rcases Nat.lt_or_ge i k with q | q
      · have := h2 i q; omega
      · rw [show i = k by omega]; exact Nat.le_refl _
    · have na : ¬ a = -1 := fun e => nI_pos (n := y) (by omega) (by rw [← h1, e]; decide)
      by_cases z3 : a ≤ nI (partN N m k)
      · have : y ≤ partN N m k := by rw [h1] at z3; exact (nI_leI (by omega) (by omega)).mp z3
        refine ⟨a, Or.inr ⟨y, h1, h2, h3, ⟨i, by omega, i2⟩, fun i hi hz => ?_⟩, step a (by rw [if_neg z1, if_neg na, if_pos z3])⟩
        rcases Nat.lt_or_ge i k with q | q
        · exact h5 i q hz
        · rw [show i = k by omega]; exact this
      · have : ¬ y ≤ partN N m k := fun q => z3 (by rw [h1]; exact nI_le q (by omega))
        refine ⟨nI (partN N m k), Or.inr ⟨_, rfl, c2, gk, ⟨k, by omega, rfl⟩, fun i hi hz => ?_⟩, step _ (by rw [if_neg z1, if_neg na, if_neg z3])⟩
        rcases Nat.lt_or_ge i k with q | q
        · have := h5 i q hz; omega
        · rw [show i = k by omega]; exact Nat.le_refl _
/-- a keeper less -/
theorem e_drop {q k : Nat} (hs : SpF S p) (hq : q < 480) (hk : k < 1000) (ha : ai S (p + 9) q = nI (k + 1)) (d : Int32) : f_X9_dropKeeper F S (p + 6) (nI q) d = some (if k = 0 then 1 else 0, if k = 0 then ui (uai (uai S (p + 9) q (nI k)) (p + 10) q d) 802 (p + 6) (si S 802 (p + 6) + 1) else uai S (p + 9) q (nI k)) := by
  have l9 := hs.l9
  have l10 := hs.l10
  unfold f_X9_dropKeeper
  rw [hs.r805_6, ob_some, ob_some, e_at (by omega) (by omega), ob_some, ha]
  simp only [lt_eq]
  rw [show nI (k + 1) - 1 = nI k by rw [show (1 : Int32) = nI 1 from rfl, nI_sub (by omega)]; rfl, e_put _ (by omega) (by omega), ob_some, sr_uai, hs.r805_6, ob_some, e_at (by rw [ln_uai]; omega) (by rw [ln_uai]; omega), ob_some, ai_uai, if_pos (show p + 9 = p + 9 ∧ q = q from ⟨rfl, rfl⟩)]
  simp only [lt_eq]
  by_cases z : k = 0
  · subst z
    rw [if_pos (by decide), if_pos rfl, if_pos rfl, sr_uai, hs.r806_6, ob_some, e_put _ (by rw [ln_uai]; omega) (by rw [ln_uai]; omega), ob_some]
    rfl
  · rw [if_neg (show ¬ nI k ≤ 0 from nI_nle (by omega) (by omega)), if_neg z, if_neg z]
end Dr
