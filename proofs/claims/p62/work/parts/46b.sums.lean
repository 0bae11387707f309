/-! sums: what is common, the word ab, the shares -/
noncomputable def wS (w : Nat → Nat) (Q : Nat → Prop) : Nat → Nat
  | 0 => 0
  | x + 1 => wS w Q x + pif (Q x) (w x) 0
theorem wS_s (w : Nat → Nat) (Q : Nat → Prop) (x : Nat) : wS w Q (x + 1) = wS w Q x + pif (Q x) (w x) 0 := rfl
theorem wS_or {w : Nat → Nat} {P Q R : Nat → Prop} (h : ∀ q, P q → Q q ∨ R q) : ∀ x, wS w P x ≤ wS w Q x + wS w R x := by
  intro x
  induction x with
  | zero => exact Nat.le_refl _
  | succ x ih =>
    rw [wS_s, wS_s, wS_s]
    by_cases z : P x
    · rw [pif_t z]
      rcases h x z with y | y
      · rw [pif_t y]; omega
      · rw [pif_t (P := R x) y]; omega
    · rw [pif_f z]; omega
theorem wS_one {w : Nat → Nat} {p : Nat} : ∀ x, wS w (fun q => q = p) x = if p < x then w p else 0 := by
  intro x
  induction x with
  | zero => rw [if_neg (by omega)]; rfl
  | succ x ih =>
    rw [wS_s, ih]
    by_cases z : x = p
    · rw [pif_t z, z, if_neg (by omega), if_pos (by omega)]; omega
    · rw [pif_f z]
      by_cases y : p < x
      · rw [if_pos y, if_pos (by omega), Nat.add_zero]
      · rw [if_neg y, if_neg (by omega)]
theorem wS_no {w : Nat → Nat} {Q : Nat → Prop} (h : ∀ q, ¬ Q q) : ∀ x, wS w Q x = 0 := by
  intro x
  induction x with
  | zero => rfl
  | succ x ih => rw [wS_s, ih, pif_f (h x)]
section Su
variable {N B : Nat → Int32} {nu : Nat → Nat} {u : Nat} {X : XS} {P : PS} {us ab : Nat → Nat} {many ev : Nat}
def lw (N : Nat → Int32) (q : Nat) : Nat := kN N (4771 + 3 * q)
theorem wS_pt (m x : Nat) : ∀ k, wS (lw N) (fun q => ∃ i, i < k ∧ partN N m i = q) x ≤ runN (fun i a => a + kN N (4771 + 3 * partN N m i)) k 0 0 := by
  intro k
  induction k with
  | zero => rw [wS_no (fun q ⟨i, y, _⟩ => by omega)]; exact Nat.zero_le _
  | succ k ih =>
    have h := wS_or (w := lw N) (P := fun q => ∃ i, i < k + 1 ∧ partN N m i = q) (Q := fun q => ∃ i, i < k ∧ partN N m i = q) (R := fun q => q = partN N m k) (fun q ⟨i, y1, y2⟩ => by
      by_cases z : i = k
      · exact Or.inr (by rw [← y2, z])
      · exact Or.inl ⟨i, by omega, y2⟩) x
    have o := wS_one (w := lw N) (p := partN N m k) x
    have : wS (lw N) (fun q => q = partN N m k) x ≤ kN N (4771 + 3 * partN N m k) := by
      rw [o]
      by_cases z : partN N m k < x
      · rw [if_pos z]; exact Nat.le_refl _
      · rw [if_neg z]; exact Nat.zero_le _
    rw [runN_s, Nat.zero_add]
    omega
theorem wS_msg (m x : Nat) : wS (lw N) (fun q => hasN N m q) x ≤ szN N m := wS_pt m x (manyN N m)
/-- the user's bytes -/
noncomputable def uW (N : Nat → Int32) (u : Nat) : Nat → Nat
  | 0 => 0
  | m + 1 => uW N u m + pif (stN N m u = 0) (szN N m) 0
theorem uW_s (N : Nat → Int32) (u m : Nat) : uW N u (m + 1) = uW N u m + pif (stN N m u = 0) (szN N m) 0 := rfl
theorem wS_rd (x : Nat) : ∀ k, wS (lw N) (fun q => ∃ m, m < k ∧ stN N m u = 0 ∧ hasN N m q) x ≤ uW N u k := by
  intro k
  induction k with
  | zero => rw [wS_no (fun q ⟨i, y, _⟩ => by omega)]; exact Nat.zero_le _
  | succ k ih =>
    rw [uW_s]
    by_cases z : stN N k u = 0
    · rw [pif_t z]
      have h := wS_or (w := lw N) (P := fun q => ∃ m, m < k + 1 ∧ stN N m u = 0 ∧ hasN N m q) (Q := fun q => ∃ m, m < k ∧ stN N m u = 0 ∧ hasN N m q) (R := fun q => hasN N k q) (fun q ⟨i, y1, y2, y3⟩ => by
        by_cases e : i = k
        · exact Or.inr (by rw [← e]; exact y3)
        · exact Or.inl ⟨i, by omega, y2, y3⟩) x
      have := wS_msg (N := N) k x
      omega
    · rw [pif_f z]
      have h := wS_or (w := lw N) (P := fun q => ∃ m, m < k + 1 ∧ stN N m u = 0 ∧ hasN N m q) (Q := fun q => ∃ m, m < k ∧ stN N m u = 0 ∧ hasN N m q) (R := fun _ => False) (fun q ⟨i, y1, y2, y3⟩ => by
        by_cases e : i = k
        · rw [e] at y2; exact absurd y2 z
        · exact Or.inl ⟨i, by omega, y2, y3⟩) x
      rw [wS_no (Q := fun _ => False) (fun _ y => y)] at h
      omega
theorem cm_wS (w : WB N B) : ∀ x, x ≤ kN N 8 → cmN N u u x = nI (wS (lw N) (rdP N u) x) := by
  intro x
  induction x with
  | zero => intro _; rfl
  | succ x ih =>
    intro hx
    have el : lenN N x = nI (kN N (4771 + 3 * x)) := (w.wP x (by omega)).1.1
    rw [cmN_s, wS_s, ih (by omega)]
    by_cases z : rdP N u x
    · rw [pif_t ⟨z, z⟩, pif_t z, el, nI_add]
      rfl
    · rw [pif_f (fun y => z y.1), pif_f z, Nat.add_zero]
theorem us_uW (x : Nat) : runN (fun m (a : Int32) => if stN N m u = 0 then a + nI (szN N m) else a) x 0 0 = nI (uW N u x) := by
  induction x with
  | zero => rfl
  | succ x ih =>
    rw [us_s, ih, uW_s]
    by_cases z : stN N x u = 0
    · rw [if_pos z, pif_t z, nI_add]
    · rw [if_neg z, pif_f z, Nat.add_zero]
theorem sz_800 (w : WB N B) {m : Nat} (hm : m < kN N 7) : szN N m ≤ 800 := by
  have m4 : manyN N m ≤ 4 := (w.wM m hm).2.2.2.1.2
  have p := (w.wM m hm).2.2.2.2.2
  have g : ∀ x, x ≤ manyN N m → runN (fun i a => a + kN N (4771 + 3 * partN N m i)) x 0 0 ≤ 200 * x := by
    intro x
    induction x with
    | zero => intro _; exact Nat.le_refl _
    | succ x ih =>
      intro hx
      have := ih (by omega)
      have l := (w.wP _ (p x (by omega)).2).1.2
      rw [runN_s, Nat.zero_add]
      omega
  have := g _ (Nat.le_refl _)
  unfold szN
  omega
theorem uW_b (w : WB N B) : ∀ m, m ≤ kN N 7 → uW N u m ≤ 800 * m := by
  intro m
  induction m with
  | zero => intro _; exact Nat.le_refl _
  | succ m ih =>
    intro hm
    have := ih (by omega)
    have s := sz_800 w (m := m) (by omega)
    rw [uW_s]
    by_cases z : stN N m u = 0
    · rw [pif_t z]; omega
    · rw [pif_f z]; omega
theorem us_eq (w : WB N B) (h : LN X N B P us ab many ev) (hu : u < usX X) (hb : us u ≤ 1000) : us u = uW N u (kN N 7) := by
  have b := uW_b (u := u) w (kN N 7) (Nat.le_refl _)
  have b7 := w.n7.2
  have e : nI (uW N u (kN N 7)) = nI (us u) := by
    rw [← us_uW]
    exact h.2.2.2.2.1 u hu
  exact ((nI_eq (by omega) (by omega)).mp e).symm
/-- what a user has in common with themself -/
theorem cm_le (w : WB N B) (h : LN X N B P us ab many ev) (hu : u < usX X) (hb : us u ≤ 1000) : ∃ c, cmN N u u (kN N 8) = nI c ∧ c ≤ us u := ⟨_, cm_wS w _ (Nat.le_refl _), by rw [us_eq w h hu hb]; exact wS_rd (kN N 8) (kN N 7)⟩
/-! the word ab -/
def atQ (s k : Nat) : Bool := decide (k + 2 ≤ (ptL s).length) && (chL (ptL s) k == 97 && (chL (ptL s) (k + 1) == 98 && ((k == 0 || !letE (chL (ptL s) (k - 1))) && (k + 2 == (ptL s).length || !letE (chL (ptL s) (k + 2))))))
theorem at_tab : ∀ s, s < 6 → ((List.range 8).any (fun k => atQ s k) = true ↔ (s = 0 ∨ s = 1 ∨ s = 3)) := by decide +kernel
theorem nle_i {v : Int32} : (!letE v) = true ↔ ¬ letB v := not_i (letE_i v)
theorem atQ_i {s k : Nat} : atQ s k = true ↔ k + 2 ≤ (ptL s).length ∧ chL (ptL s) k = 97 ∧ chL (ptL s) (k + 1) = 98 ∧ (k = 0 ∨ ¬ letB (chL (ptL s) (k - 1))) ∧ (k + 2 = (ptL s).length ∨ ¬ letB (chL (ptL s) (k + 2))) := by
  unfold atQ
  rw [Bool.and_eq_true, Bool.and_eq_true, Bool.and_eq_true, Bool.and_eq_true, Bool.or_eq_true, Bool.or_eq_true, decide_eq_true_iff, beq_iff_eq, beq_iff_eq, beq_iff_eq, beq_iff_eq, nle_i, nle_i]
theorem abW : chL (cs 15) 0 = 97 ∧ chL (cs 15) 1 = 98 := by decide
theorem at_iff {q s : Nat} (h : IsP N B q s) (hs : s < 6) : (∃ k, atB N B q (chL (cs 15)) 2 k) ↔ abS s := by
  obtain ⟨-, -, h3, h4⟩ := h
  have lb := ptL_b s hs
  have tab := at_tab s hs
  constructor
  · rintro ⟨k, a1, a2, a3, a4⟩
    rw [h3] at a1 a4
    have e0 := a2 0 (by omega)
    have e1 := a2 1 (by omega)
    rw [Nat.add_zero, h4 k (by omega), abW.1] at e0
    rw [Nat.add_assoc, h4 (k + 1) (by omega), abW.2] at e1
    have q : atQ s k = true := atQ_i.mpr ⟨a1, e0, e1, by
      rcases a3 with y | y
      · exact Or.inl y
      · by_cases z : k = 0
        · exact Or.inl z
        · rw [show 200 * q + k - 1 = 200 * q + (k - 1) by omega, h4 (k - 1) (by omega)] at y
          exact Or.inr y, by
      rcases a4 with y | y
      · exact Or.inl y
      · by_cases z : k + 2 = (ptL s).length
        · exact Or.inl z
        · rw [Nat.add_assoc, h4 (k + 2) (by omega)] at y
          exact Or.inr y⟩
    exact tab.mp (List.any_eq_true.mpr ⟨k, List.mem_range.mpr (by omega), q⟩)
  · intro y
    obtain ⟨k, -, qq⟩ := List.any_eq_true.mp (tab.mpr y)
    obtain ⟨a1, a2, a3, a4, a5⟩ := atQ_i.mp qq
    refine ⟨k, by rw [h3]; exact a1, fun i hi => ?_, ?_, ?_⟩
    · rcases (by omega : i = 0 ∨ i = 1) with rfl | rfl
      · rw [Nat.add_zero, h4 k (by omega), abW.1]; exact a2
      · rw [Nat.add_assoc, h4 (k + 1) (by omega), abW.2]; exact a3
    · rcases a4 with t | t
      · exact Or.inl t
      · by_cases z : k = 0
        · exact Or.inl z
        · rw [show 200 * q + k - 1 = 200 * q + (k - 1) by omega, h4 (k - 1) (by omega)]
          exact Or.inr t
    · rw [h3]
      rcases a5 with t | t
      · exact Or.inl t
      · by_cases z : k + 2 = (ptL s).length
        · exact Or.inl z
        · rw [Nat.add_assoc, h4 (k + 2) (by omega)]
          exact Or.inr t
theorem cont_iff (w : WB N B) (h : PTb N B nu) {m : Nat} (hm : m < kN N 7) : contB N B m (chL (cs 15)) 2 ↔ abM N nu m := by
  have p := (w.wM m hm).2.2.2.2.2
  unfold contB abM
  constructor
  · rintro ⟨i, k, hi, ha⟩
    obtain ⟨s, s1, s2⟩ := h.2 _ (p i hi).2
    have ip := (h.1 s s1 (by omega)).2
    rw [show nu s - 1 = partN N m i by omega] at ip
    exact ⟨i, hi, s, s1, s2, (at_iff ip s1).mp ⟨k, ha⟩⟩
  · rintro ⟨i, hi, s, s1, s2, s3⟩
    have ip := (h.1 s s1 (by omega)).2
    rw [show nu s - 1 = partN N m i by omega] at ip
    obtain ⟨k, ha⟩ := (at_iff ip s1).mpr s3
    exact ⟨i, k, hi, ha⟩
theorem ab_run (w : WB N B) (h : LN X N B P us ab many ev) (hu : u < usX X) : runN (fun m (a : Int32) => if ¬ stN N m u = 0 then a else pif (contB N B m (chL (cs 15)) 2) (a + 1) a) (kN N 7) 0 0 = nI (ab u) := by
  rw [← h.2.2.2.2.2 u hu]
  unfold abN
  rw [h.2.2.1.1]
  refine runN_e (fun m a hm => ?_)
  rw [pif_c (cont_iff w h.2.1.1 (by rw [h.2.2.1.1]; exact hm))]
/-! the shares -/
def suU (f : Nat → Nat) : Nat → Nat
  | 0 => 0
  | x + 1 => suU f x + f x
theorem su_add {f g : Nat → Nat} : ∀ x, suU (fun u => f u + g u) x = suU f x + suU g x := by
  intro x
  induction x with
  | zero => rfl
  | succ x ih =>
    show suU (fun u => f u + g u) x + (f x + g x) = (suU f x + f x) + (suU g x + g x)
    omega
theorem su_cnt {Q : Nat → Prop} {K : Nat} : ∀ x, suU (fun u => pif (Q u) K 0) x = cntP Q x * K := by
  intro x
  induction x with
  | zero => show 0 = 0 * K; omega
  | succ x ih =>
    show suU (fun u => pif (Q u) K 0) x + pif (Q x) K 0 = _
    rw [ih, cntP_s, Nat.add_mul]
    by_cases z : Q x
    · rw [pif_t z, pif_t z, Nat.one_mul]
    · rw [pif_f z, pif_f z, Nat.zero_mul]
noncomputable def rdK (N : Nat → Int32) (q : Nat) : Nat := cntP (fun v => rdP N v q) (kN N 4)
/-- six times a part's share -/
noncomputable def qw (N : Nat → Int32) (q : Nat) : Nat := 6 * lw N q / rdK N q
theorem su_q : ∀ x, (∀ q, q < x → 1 ≤ rdK N q ∧ rdK N q ≤ 3) → suU (fun u => wS (qw N) (rdP N u) x) (kN N 4) = 6 * wS (lw N) (fun _ => True) x := by
  intro x
  induction x with
  | zero =>
    intro _
    show suU (fun _ => 0) (kN N 4) = 0
    generalize kN N 4 = U
    induction U with
    | zero => rfl
    | succ U ih => show suU (fun _ => 0) U + 0 = 0; rw [ih]
  | succ x ih =>
    intro h
    have e : suU (fun u => wS (qw N) (rdP N u) (x + 1)) (kN N 4) = suU (fun u => wS (qw N) (rdP N u) x) (kN N 4) + suU (fun u => pif (rdP N u x) (qw N x) 0) (kN N 4) := su_add (f := fun u => wS (qw N) (rdP N u) x) (g := fun u => pif (rdP N u x) (qw N x) 0) (kN N 4)
    rw [e, ih (fun q hq => h q (by omega)), su_cnt (Q := fun u => rdP N u x), wS_s, pif_t True.intro]
    have hc := h x (by omega)
    have : rdK N x * qw N x = 6 * lw N x := by
      unfold qw
      generalize lw N x = l
      generalize rdK N x = c at hc ⊢
      rcases (by omega : c = 1 ∨ c = 2 ∨ c = 3) with rfl | rfl | rfl <;> omega
    have t : cntP (fun u => rdP N u x) (kN N 4) * qw N x = 6 * lw N x := this
    rw [t]
    omega
theorem rdK_b (W : WF N B) (h : LN X N B P us ab many ev) {q : Nat} (hq : q < kN N 8) : 1 ≤ rdK N q ∧ rdK N q ≤ 3 := by
  have ux := usX_b X
  have k4 := h.1.2.1
  obtain ⟨m, m1, m2⟩ := W.inm hq
  obtain ⟨-, u, u1, u2⟩ := h.2.2.2.1 m (by rw [← h.2.2.1.1]; exact m1)
  have le := cntP_le (fun v => rdP N v q) (kN N 4)
  refine ⟨?_, by unfold rdK; omega⟩
  by_cases z : rdK N q = 0
  · exact absurd (show rdP N u q from ⟨m, m1, u2, m2⟩) (cntP_z.mp z u (by omega))
  · omega
theorem by_eq (w : WB N B) (h : LN X N B P us ab many ev) (hb : P.2.2 ≤ 100) : P.2.2 = wS (lw N) (fun _ => True) (kN N 8) := by
  have b8 := w.n8.2
  have g : ∀ x, x ≤ kN N 8 → runN (fun q (a : Int32) => if isN N q = 1 then a + lenN N q else a) x 0 0 = nI (wS (lw N) (fun _ => True) x) ∧ wS (lw N) (fun _ => True) x ≤ 200 * x := by
    intro x
    induction x with
    | zero => intro _; exact ⟨rfl, Nat.le_refl _⟩
    | succ x ih =>
      intro hx
      obtain ⟨i1, i2⟩ := ih (by omega)
      have el : lenN N x = nI (kN N (4771 + 3 * x)) := (w.wP x (by omega)).1.1
      have l2 : lw N x ≤ 200 := (w.wP x (by omega)).1.2
      rw [runN_s, Nat.zero_add, i1, if_pos (h.is1 (by omega)).1, el, nI_add, wS_s, pif_t True.intro]
      exact ⟨rfl, by omega⟩
  obtain ⟨g1, g2⟩ := g _ (Nat.le_refl _)
  have e : nI (wS (lw N) (fun _ => True) (kN N 8)) = nI P.2.2 := by rw [← g1]; exact h.2.1.2.2
  exact ((nI_eq (by omega) (by omega)).mp e).symm
end Su
