/-! the content: the model -/
/-- the model has cut the input -/
def MCut (S : St) (f : Nat → Int32) (L : Nat) : Prop := si S 1018 197 = nI (kC f L) ∧ ∀ j, j ≤ kC f L → ai S 203 j = nI (cC f L j)
/-- two places are equal; a place is the first of its kind -/
def smC (f : Nat → Int32) (L i j : Nat) : Prop := lC f L i = lC f L j ∧ ∀ k, k < lC f L i → f (cC f L i + k) = f (cC f L j + k)
def fsC (f : Nat → Int32) (L j : Nat) : Prop := ∀ i, i < j → ¬ smC f L i j
theorem smC_sy {f : Nat → Int32} {L i j : Nat} (h : smC f L i j) : smC f L j i := ⟨h.1.symm, fun k hk => (h.2 k (by rw [h.1]; exact hk)).symm⟩
/-- a stored part is what lies at a place -/
def lkP (N B f : Nat → Int32) (L j q : Nat) : Prop := isN N q = 1 ∧ kN N (4771 + 3 * q) = lC f L j ∧ ∀ k, k < lC f L j → B (200 * q + k) = f (cC f L j + k)
/-- the first number that is so -/
noncomputable def fnd (P : Nat → Prop) : Nat → Nat → Nat
  | 0, k => k
  | d + 1, k => pif (P k) k (fnd P d (k + 1))
theorem fnd_s (P : Nat → Prop) (d k : Nat) : fnd P (d + 1) k = pif (P k) k (fnd P d (k + 1)) := rfl
theorem fnd_sp {P : Nat → Prop} : ∀ d k, k ≤ fnd P d k ∧ fnd P d k ≤ k + d ∧ (∀ x, k ≤ x → x < fnd P d k → ¬ P x) ∧ (fnd P d k < k + d → P (fnd P d k)) := by
  intro d
  induction d with
  | zero => intro k; exact ⟨Nat.le_refl _, Nat.le_refl _, fun x h1 h2 => by unfold fnd at h2; omega, fun h => by unfold fnd at h; omega⟩
  | succ d ih =>
    intro k
    rw [fnd_s]
    by_cases z : P k
    · rw [pif_t z]; exact ⟨Nat.le_refl _, by omega, fun x h1 h2 => by omega, fun _ => z⟩
    · rw [pif_f z]
      obtain ⟨a, b, c, e⟩ := ih (k + 1)
      refine ⟨by omega, by omega, fun x h1 h2 => ?_, fun h => e (by omega)⟩
      by_cases y : x = k
      · rw [y]; exact z
      · exact c x (by omega) h2
theorem fnd_eq {P : Nat → Prop} {b x : Nat} (hx : x < b) (h : P x) (lo : ∀ y, y < x → ¬ P y) : fnd P b 0 = x := by
  obtain ⟨-, a, c, e⟩ := fnd_sp (P := P) b 0
  rcases Nat.lt_trichotomy (fnd P b 0) x with y | y | y
  · exact absurd (e (by omega)) (lo _ y)
  · exact y
  · exact absurd h (c x (by omega) y)
theorem fnd_no {P : Nat → Prop} {b : Nat} (h : ∀ x, x < b → ¬ P x) : fnd P b 0 = b := by
  obtain ⟨-, a, c, e⟩ := fnd_sp (P := P) b 0
  by_cases y : fnd P b 0 < b
  · exact absurd (e (by omega)) (h _ y)
  · omega
theorem fnd_c {P Q : Nat → Prop} : ∀ d k, (∀ x, k ≤ x → x < k + d → (P x ↔ Q x)) → fnd P d k = fnd Q d k := by
  intro d
  induction d with
  | zero => intro k _; rfl
  | succ d ih =>
    intro k h
    rw [fnd_s, fnd_s, ih (k + 1) (fun x h1 h2 => h x (by omega) (by omega))]
    exact pif_c (h k (Nat.le_refl _) (by omega))
noncomputable def nbC (N B f : Nat → Int32) (L j : Nat) : Nat := fnd (lkP N B f L j) (kN N 8) 0
/-- as a number; none is -1 -/
noncomputable def nbI (N B f : Nat → Int32) (L j : Nat) : Int32 := if nbC N B f L j < kN N 8 then nI (nbC N B f L j) else -1
section Mc
variable {F : Nat} {S : St} {f : Nat → Int32} {L : Nat}
theorem m_cutInput (hx : FxF S) (hL : L ≤ 1200) (h1 : si S 1007 197 = nI L) (hf : ∀ i, i < L → ai S 201 i = f i) (hF : 10000 ≤ F) : ∃ T, f_X11_cutInput F S 197 = some T ∧ Sc S T ∧ MCut T f L := by
  have loop : ∀ d k fu T, k + d = L → d < fu → Sc S T → si T 1018 197 = nI (nb f k + 1) → (∀ j, j ≤ nb f k → ai T 203 j = nI (cw f k j)) → ∃ T', f_X11_cutInput_L14 F fu T 197 (nI k) = some T' ∧ Sc S T' ∧ MCut T' f L := by
    intro d
    induction d with
    | zero =>
      intro k fu T hk hfu c m1 m2
      obtain ⟨fu, rfl⟩ : ∃ f', fu = f' + 1 := ⟨fu - 1, by omega⟩
      have : k = L := by omega
      subst this
      have hxT := c.fx hx
      have s7 : si T 1007 197 = nI k := (c.2.2.2.1.2.2.1 1007 (by omega)).trans h1
      have nl := nb_le f k
      refine ⟨uai T 203 (nb f k + 1) (nI (k + 1)), ?_, c.tr (Sc.uai _ (by decide)), m1, fun j hj => ?_⟩
      · unfold f_X11_cutInput_L14
        rw [s7, if_pos (nI_le (Nat.le_refl _) (by omega)), hxT.r1017_197, ob_some, m1, hxT.l203, cki_nI (by omega) (by omega), nI_clamp (by omega), nI_1]
        rfl
      · unfold kC at hj
        rw [ai_uaiE]
        unfold cC
        by_cases z : j = nb f k + 1
        · rw [z, upd_e, updN_e]
        · rw [upd_n z, updN_n z]; exact m2 j (by omega)
    | succ d ih =>
      intro k fu T hk hfu c m1 m2
      obtain ⟨fu, rfl⟩ : ∃ f', fu = f' + 1 := ⟨fu - 1, by omega⟩
      have hxT := c.fx hx
      have s7 : si T 1007 197 = nI L := (c.2.2.2.1.2.2.1 1007 (by omega)).trans h1
      have a201 : ai T 201 = ai S 201 := c.1.2.2.1 201 (by decide)
      have nl := nb_le f k
      unfold f_X11_cutInput_L14
      rw [s7, if_neg (nI_ge (by omega) (by omega)), hxT.r1006_197, ob_some, hxT.l201, cki_nI (by omega) (by omega), nI_clamp (by omega), a201, hf k (by omega)]
      unfold f_X11_cutInput_L58
      by_cases z : f k = 124
      · have en : nb f (k + 1) = nb f k + 1 := by rw [nb, if_pos z]
        have ec : cw f (k + 1) = updN (cw f k) (nb f k + 1) (k + 1) := by rw [cw, if_pos z]
        obtain ⟨T', t1, t2⟩ := ih (k + 1) fu (ui (uai T 203 (nb f k + 1) (nI (k + 1))) 1018 197 (nI (nb f k + 1 + 1))) (by omega) (by omega) ((c.tr (Sc.uai _ (by decide))).tr (Sc.ui _ (by decide) (by decide))) (by rw [si_ui, if_pos ⟨rfl, rfl⟩, en]) (fun j hj => by
          rw [ai_ui, ai_uaiE, ec]
          by_cases y : j = nb f k + 1
          · rw [y, upd_e, updN_e]
          · rw [upd_n y, updN_n y]; exact m2 j (by omega))
        refine ⟨T', ?_, t2⟩
        rw [← t1, if_pos z, hxT.r1017_197, ob_some, m1, hxT.l203, cki_nI (by omega) (by omega), nI_clamp (by omega), nI_1]
        simp only [lt_eq]
        rw [si_uai, m1, nI_1]
      · have en : nb f (k + 1) = nb f k := by rw [nb, if_neg z]
        have ec : cw f (k + 1) = cw f k := by rw [cw, if_neg z]
        obtain ⟨T', t1, t2⟩ := ih (k + 1) fu T (by omega) (by omega) c (by rw [en]; exact m1) (fun j hj => by rw [ec]; exact m2 j (by omega))
        refine ⟨T', ?_, t2⟩
        rw [← t1, if_neg z, lt_eq, nI_1]
  have c1 : Sc S (uai (ui S 1018 197 1) 203 0 0) := (Sc.ui _ (by decide) (by decide)).tr (Sc.uai _ (by decide))
  obtain ⟨T', t1, t2⟩ := loop L 0 F (uai (ui S 1018 197 1) 203 0 0) (by omega) (by omega) c1 (by rw [si_uai, si_ui, if_pos ⟨rfl, rfl⟩]; rfl) (fun j hj => by
    have : j = 0 := by unfold nb at hj; omega
    rw [this, ai_uaiE, upd_e]; rfl)
  refine ⟨T', ?_, t2⟩
  unfold f_X11_cutInput
  have x1 : FxF (ui S 1018 197 1) := (Sc.ui (S := S) (f := 1018) 1 (by decide) (by decide)).fx hx
  rw [lt_eq, x1.r1017_197, ob_some, x1.l203, cki_0 (by omega) (by omega), lt_eq]
  exact t1
theorem m_lengthIn (hx : FxF S) (m : MCut S f L) (hL : L ≤ 1200) {j : Nat} (hj : j < kC f L) : f_X11_lengthIn F S 197 (nI j) = some (nI (lC f L j), S) := by
  obtain ⟨q1, q2, -, -⟩ := cC_lt (f := f) (L := L) hj
  have q5 := cC_le (f := f) (L := L) hj
  have nl := nb_le f L
  have kl : kC f L ≤ 1201 := by unfold kC; omega
  unfold f_X11_lengthIn
  rw [hx.r1017_197, ob_some, ob_some, hx.l203, nI_1, cki_nI (by omega) (by omega), cki_nI (by omega) (by omega), nI_clamp (by omega), nI_clamp (by omega), m.2 (j + 1) (by omega), m.2 j (by omega), nI_sub (by omega), show (1 : Int32) = nI 1 from rfl, nI_sub (by omega)]
  unfold lC
  rw [show cC f L (j + 1) - cC f L j - 1 = cC f L (j + 1) - 1 - cC f L j by omega]
theorem m_isContent (hx : FxF S) (hL : L ≤ 1200) (h1 : si S 1007 197 = nI L) (hf : ∀ i, i < L → ai S 201 i = f i) (hF : 10000 ≤ F) : ∃ T, f_X11_isContent F S 197 = some (pI (gdC f L), T) ∧ Sc S T ∧ MCut T f L := by
  obtain ⟨T, t1, t2, t3⟩ := m_cutInput (F := F) hx hL h1 hf hF
  have hxT := t2.fx hx
  have nl := nb_le f L
  have kl : kC f L ≤ 1201 := by unfold kC; omega
  have loop : ∀ d j fu (b : Prop), j + d = kC f L → d < fu → (b ↔ kC f L ≤ 4 ∧ ∀ k, k < j → 1 ≤ lC f L k ∧ lC f L k ≤ 200) → f_X11_isContent_L20 F fu T 197 (pI b) (nI j) = some (pI (gdC f L), T) := by
    intro d
    induction d with
    | zero =>
      intro j fu b hj hfu hb
      obtain ⟨fu, rfl⟩ : ∃ f', fu = f' + 1 := ⟨fu - 1, by omega⟩
      have ej : j = kC f L := by omega
      unfold f_X11_isContent_L20
      subst ej
      rw [t3.1, if_pos (nI_le (Nat.le_refl _) (by omega)), ck_t (pI01 _), pI_c (Q := gdC f L) hb]
    | succ d ih =>
      intro j fu b hj hfu hb
      obtain ⟨fu, rfl⟩ : ∃ f', fu = f' + 1 := ⟨fu - 1, by omega⟩
      unfold f_X11_isContent_L20
      rw [t3.1, if_neg (nI_ge (by omega) (by omega))]
      by_cases z : b
      · have lb : lC f L j < 2 ^ 31 := by
          have := cC_le (f := f) (L := L) (j := j) (by omega)
          unfold lC
          omega
        rw [if_neg (show ¬ pI b = 0 from fun y => (pI_0.mp y) z), m_lengthIn hxT t3 hL (by omega), ob_some]
        simp only [lt_eq]
        rw [show f_X11_in F T (nI (lC f L j)).toInt64 1 200 = some (bI (1 ≤ nI (lC f L j) ∧ nI (lC f L j) ≤ 200), T) from e_in F T (nI (lC f L j)) 1 200, ob_some]
        simp only [lt_eq]
        have q : (1 ≤ nI (lC f L j) ∧ nI (lC f L j) ≤ 200) ↔ (1 ≤ lC f L j ∧ lC f L j ≤ 200) := ⟨fun y => ⟨(nI_leI (a := 1) (by omega) (by omega)).mp y.1, (nI_leI (b := 200) (by omega) (by omega)).mp y.2⟩, fun y => ⟨nI_le (a := 1) y.1 (by omega), nI_le (b := 200) y.2 (by omega)⟩⟩
        rw [← pI_b, nI_1]
        refine ih (j + 1) fu _ (by omega) (by omega) (q.trans ⟨fun y => ⟨(hb.mp z).1, fun k hk => ?_⟩, fun y => y.2 j (by omega)⟩)
        by_cases e : k = j
        · rw [e]; exact y
        · exact (hb.mp z).2 k (by omega)
      · rw [if_pos (pI_0.mpr z), ck_t (pI01 _), pI_f z, pI_f (fun y => z (hb.mpr ⟨y.1, fun k hk => y.2 k (by omega)⟩))]
  refine ⟨T, ?_, t2, t3⟩
  unfold f_X11_isContent f_X11_isContent_L17
  rw [t1, ob_some, t3.1]
  have g := fun b h => loop (kC f L) 0 F b (by omega) (by omega) h
  by_cases z : 4 < kC f L
  · rw [if_pos (show 4 < nI (kC f L) from nI_lt (a := 4) z (by omega))]
    have := g False ⟨fun y => y.elim, fun y => by have := y.1; omega⟩
    rw [pI_f (fun y => y)] at this
    exact this
  · rw [if_neg (show ¬ 4 < nI (kC f L) from le_nlt.mp (nI_le (b := 4) (by omega) (by omega)))]
    have := g True ⟨fun _ => ⟨by omega, fun k hk => by omega⟩, fun _ => True.intro⟩
    rw [pI_t True.intro] at this
    exact this
theorem m_areSame (hx : FxF S) (m : MCut S f L) (hL : L ≤ 1200) (hf : ∀ i, i < L → ai S 201 i = f i) {i j : Nat} (hi : i < kC f L) (hj : j < kC f L) (hF : 10000 ≤ F) : f_X11_areSame F S 197 (nI i) (nI j) = some (pI (smC f L i j), S) := by
  obtain ⟨p1, p2, -, p4⟩ := cC_lt (f := f) (L := L) hi
  obtain ⟨q1, q2, -, q4⟩ := cC_lt (f := f) (L := L) hj
  have p5 := cC_le (f := f) (L := L) hi
  have q5 := cC_le (f := f) (L := L) hj
  have nl := nb_le f L
  have kl : kC f L ≤ 1201 := by unfold kC; omega
  have lb : lC f L i ≤ 1200 := by unfold lC; omega
  have li : cC f L i + lC f L i ≤ L := by unfold lC; omega
  have lj : cC f L j + lC f L j ≤ L := by unfold lC; omega
  have loop : ∀ d k fu (b : Prop), k + d = lC f L i → d < fu → (b ↔ lC f L i = lC f L j ∧ ∀ x, x < k → f (cC f L i + x) = f (cC f L j + x)) → f_X11_areSame_L22 F fu S 197 (nI i) (nI j) (pI b) (nI k) = some (pI (smC f L i j), S) := by
    intro d
    induction d with
    | zero =>
      intro k fu b hk hfu hb
      obtain ⟨fu, rfl⟩ : ∃ f', fu = f' + 1 := ⟨fu - 1, by omega⟩
      have ek : k = lC f L i := by omega
      unfold f_X11_areSame_L22
      rw [m_lengthIn hx m hL hi, ob_some]
      simp only [lt_eq]
      subst ek
      rw [if_pos (nI_le (Nat.le_refl _) (by omega)), ck_t (pI01 _), pI_c (Q := smC f L i j) hb]
    | succ d ih =>
      intro k fu b hk hfu hb
      obtain ⟨fu, rfl⟩ : ∃ f', fu = f' + 1 := ⟨fu - 1, by omega⟩
      unfold f_X11_areSame_L22
      rw [m_lengthIn hx m hL hi, ob_some]
      simp only [lt_eq]
      rw [if_neg (nI_ge (by omega) (by omega))]
      by_cases z : b
      rotate_left
      · rw [if_pos (pI_0.mpr z), ck_t (pI01 _), pI_f z, pI_f (fun y => z (hb.mpr ⟨y.1, fun x hx => y.2 x (by omega)⟩))]
      have le := (hb.mp z).1
      rw [if_neg (show ¬ pI b = 0 from fun y => (pI_0.mp y) z), hx.r1006_197, ob_some, hx.r1017_197, ob_some, hx.l203, cki_nI (by omega) (by omega), nI_clamp (by omega), m.2 i (by omega), nI_add, hx.l201, cki_nI (by omega) (by omega), ob_some, ob_some, hx.l203, cki_nI (by omega) (by omega), nI_clamp (by omega), m.2 j (by omega), nI_add, hx.l201, cki_nI (by omega) (by omega), nI_clamp (by omega), nI_clamp (by omega), hf _ (by omega), hf _ (by omega)]
      unfold f_X11_areSame_L72
      by_cases y : f (cC f L i + k) = f (cC f L j + k)
      · rw [if_neg (fun w => w y), lt_eq, nI_1]
        have := ih (k + 1) fu True (by omega) (by omega) ⟨fun _ => ⟨le, fun x hx => by
          by_cases e : x = k
          · rw [e]; exact y
          · exact (hb.mp z).2 x (by omega)⟩, fun _ => True.intro⟩
        rw [pI_t True.intro] at this
        exact this
      · rw [if_pos y, lt_eq, nI_1]
        have := ih (k + 1) fu False (by omega) (by omega) ⟨fun w => w.elim, fun w => y (w.2 k (by omega))⟩
        rw [pI_f (fun w => w)] at this
        exact this
  unfold f_X11_areSame f_X11_areSame_L18
  rw [m_lengthIn hx m hL hi, ob_some]
  simp only [lt_eq]
  rw [m_lengthIn hx m hL hj, ob_some]
  simp only [lt_eq]
  have lbj : lC f L j ≤ 1200 := by omega
  by_cases z : lC f L i = lC f L j
  · rw [if_neg (fun w => w (by rw [z]))]
    have := loop (lC f L i) 0 F True (by omega) (by omega) ⟨fun _ => ⟨z, fun x hx => by omega⟩, fun _ => True.intro⟩
    rw [pI_t True.intro] at this
    exact this
  · rw [if_pos (fun w => z ((nI_eq (by omega) (by omega)).mp w))]
    have := loop (lC f L i) 0 F False (by omega) (by omega) ⟨fun w => w.elim, fun w => z w.1⟩
    rw [pI_f (fun w => w)] at this
    exact this
end Mc
