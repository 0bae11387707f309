/-- the keywords of the class: lengths and letters -/
def kwL : List Nat := [5, 5, 5, 5, 4, 7, 4, 4, 4, 5, 5, 4, 4, 2, 4]
def kwB : List (List Int32) := [[115, 112, 111, 111, 108], [103, 114, 97, 99, 101], [114, 111, 117, 110, 100], [99, 108, 97, 115, 115], [100, 97, 121, 115], [102, 111, 114, 101, 118, 101, 114], [107, 101, 101, 112], [116, 104, 101, 110], [117, 115, 101, 114], [113, 117, 111, 116, 97], [103, 114, 111, 117, 112], [104, 111, 108, 100], [102, 114, 111, 109], [116, 111], [119, 111, 114, 100]]
/-! PURE: loops, numbers, the shape of the heap -/
theorem lt_eq {α : Sort _} {β : Type} (e : α) (k : α → Option β) : lt e k = k e := rfl
theorem ob_some {α β : Type} (x : α) (k : α → Option β) : Option.bind (some x) k = k x := rfl
theorem ck_t {β : Type} {c : Prop} [Decidable c] {k : Option β} (h : c) : ck c k = k := if_pos h
theorem cki_t {β : Type} {x : Int32} {n : Nat} {k : Option β} (h : vp_in x n) : cki x n k = k := if_neg h
theorem sm_l {α β : Type} (x : Nat) (a : Nat → β) (b : α → β) : sm (.inl x : Nat ⊕ α) a b = a x := rfl
theorem sm_r {α β : Type} (x : α) (a : Nat → β) (b : α → β) : sm (.inr x : Nat ⊕ α) a b = b x := rfl
theorem os_n {α β : Type} (a : β) (b : α → β) : os (none : Option α) a b = a := rfl
theorem os_s {α β : Type} (x : α) (a : β) (b : α → β) : os (some x) a b = b x := rfl
/-- a counted loop that may be left -/
def runL {α β : Type} (step : Nat → α → β ⊕ α) (fin : α → β) : Nat → Nat → α → β
  | 0, _, a => fin a
  | c + 1, k, a => match step k a with
    | .inl b => b
    | .inr a' => runL step fin c (k + 1) a'
theorem loopI {α β : Type} (L : Nat → Nat → α → Option β) (n : Nat) (step : Nat → α → β ⊕ α) (fin : α → β) (I : Nat → α → Prop)
    (hstop : ∀ fu a, I n a → L (fu + 1) n a = some (fin a))
    (hstep : ∀ fu k a, k < n → I k a → (∃ b, step k a = .inl b ∧ L (fu + 1) k a = some b) ∨ (∃ a', step k a = .inr a' ∧ I (k + 1) a' ∧ L (fu + 1) k a = L fu (k + 1) a')) :
    ∀ fu k a, k ≤ n → n - k < fu → I k a → L fu k a = some (runL step fin (n - k) k a) := by
  intro fu
  induction fu with
  | zero => intro k a _ h; exact absurd h (Nat.not_lt_zero _)
  | succ fu ih =>
    intro k a hk hf hI
    rcases Nat.lt_or_ge k n with h | h
    · have e : n - k = (n - (k + 1)) + 1 := by omega
      rcases hstep fu k a h hI with ⟨b, h1, h2⟩ | ⟨a', h1, h2, h3⟩
      · rw [h2, e]
        simp only [runL, h1]
      · rw [h3, ih (k + 1) a' (by omega) (by omega) h2, e]
        simp only [runL, h1]
    · have e : k = n := by omega
      subst e
      rw [hstop fu a hI, Nat.sub_self]
      rfl
/-- the same, when nothing leaves it -/
def runN {α : Type} (step : Nat → α → α) : Nat → Nat → α → α
  | 0, _, a => a
  | c + 1, k, a => runN step c (k + 1) (step k a)
theorem loopN {α β : Type} (L : Nat → Nat → α → Option β) (n : Nat) (step : Nat → α → α) (fin : α → β) (I : Nat → α → Prop)
    (hstop : ∀ fu a, I n a → L (fu + 1) n a = some (fin a)) (hstep : ∀ fu k a, k < n → I k a → I (k + 1) (step k a) ∧ L (fu + 1) k a = L fu (k + 1) (step k a)) :
    ∀ fu k a, k ≤ n → n - k < fu → I k a → L fu k a = some (fin (runN step (n - k) k a)) ∧ I n (runN step (n - k) k a) := by
  intro fu
  induction fu with
  | zero => intro k a _ h; exact absurd h (Nat.not_lt_zero _)
  | succ fu ih =>
    intro k a hk hf hI
    rcases Nat.lt_or_ge k n with h | h
    · have e : n - k = (n - (k + 1)) + 1 := by omega
      obtain ⟨h2, h3⟩ := hstep fu k a h hI
      obtain ⟨g1, g2⟩ := ih (k + 1) (step k a) (by omega) (by omega) h2
      rw [h3, e]
      exact ⟨g1, g2⟩
    · have e : k = n := by omega
      subst e
      rw [Nat.sub_self]
      exact ⟨hstop fu a hI, hI⟩
theorem runN_eq {α : Type} {s t : Nat → α → α} {n : Nat} : ∀ (c k : Nat) (a : α), k + c ≤ n → (∀ j b, j < n → s j b = t j b) → runN s c k a = runN t c k a := by
  intro c
  induction c with
  | zero => intro k a _ _; rfl
  | succ c ih =>
    intro k a h e
    show runN s c (k + 1) (s k a) = runN t c (k + 1) (t k a)
    rw [e k a (by omega)]
    exact ih (k + 1) _ (by omega) e
/-! what a store leaves -/
theorem sr_ui (S : St) (f i : Nat) (v : Int32) : sr (ui S f i v) = sr S := rfl
theorem sr_ul (S : St) (f i : Nat) (v : Int64) : sr (ul S f i v) = sr S := rfl
theorem sr_uai (S : St) (i k : Nat) (v : Int32) : sr (uai S i k v) = sr S := rfl
theorem sr_ual (S : St) (i k : Nat) (v : Int64) : sr (ual S i k v) = sr S := rfl
theorem sr_uar (S : St) (i k : Nat) (v : Option Nat) : sr (uar S i k v) = sr S := rfl
theorem sr_sai (S : St) (i : Nat) (h : Nat → Int32) : sr (sai S i h) = sr S := rfl
theorem ln_ui (S : St) (f i : Nat) (v : Int32) : ln (ui S f i v) = ln S := rfl
theorem ln_ur (S : St) (f i : Nat) (v : Option Nat) : ln (ur S f i v) = ln S := rfl
theorem ln_ul (S : St) (f i : Nat) (v : Int64) : ln (ul S f i v) = ln S := rfl
theorem ln_uai (S : St) (i k : Nat) (v : Int32) : ln (uai S i k v) = ln S := rfl
theorem ln_ual (S : St) (i k : Nat) (v : Int64) : ln (ual S i k v) = ln S := rfl
theorem ln_uar (S : St) (i k : Nat) (v : Option Nat) : ln (uar S i k v) = ln S := rfl
theorem ln_sai (S : St) (i : Nat) (h : Nat → Int32) : ln (sai S i h) = ln S := rfl
theorem ai_ui (S : St) (f i : Nat) (v : Int32) : ai (ui S f i v) = ai S := rfl
theorem ai_ur (S : St) (f i : Nat) (v : Option Nat) : ai (ur S f i v) = ai S := rfl
theorem ai_ul (S : St) (f i : Nat) (v : Int64) : ai (ul S f i v) = ai S := rfl
theorem ai_ual (S : St) (i k : Nat) (v : Int64) : ai (ual S i k v) = ai S := rfl
theorem ai_uar (S : St) (i k : Nat) (v : Option Nat) : ai (uar S i k v) = ai S := rfl
theorem ai_uai (S : St) (i k : Nat) (v : Int32) (j q : Nat) : ai (uai S i k v) j q = if j = i ∧ q = k then v else ai S j q := by
  by_cases h : j = i
  · subst h
    by_cases h2 : q = k <;> simp [ai, uai, sai, va_up, upd, h2]
  · simp [ai, uai, sai, va_up, h]
theorem ai_sai (S : St) (i : Nat) (h : Nat → Int32) (j : Nat) : ai (sai S i h) j = if j = i then h else ai S j := rfl
theorem al_ui (S : St) (f i : Nat) (v : Int32) : al (ui S f i v) = al S := rfl
theorem al_ur (S : St) (f i : Nat) (v : Option Nat) : al (ur S f i v) = al S := rfl
theorem al_ul (S : St) (f i : Nat) (v : Int64) : al (ul S f i v) = al S := rfl
theorem al_uai (S : St) (i k : Nat) (v : Int32) : al (uai S i k v) = al S := rfl
theorem al_uar (S : St) (i k : Nat) (v : Option Nat) : al (uar S i k v) = al S := rfl
theorem al_sai (S : St) (i : Nat) (h : Nat → Int32) : al (sai S i h) = al S := rfl
theorem al_ual (S : St) (i k : Nat) (v : Int64) (j q : Nat) : al (ual S i k v) j q = if j = i ∧ q = k then v else al S j q := by
  by_cases h : j = i
  · subst h
    by_cases h2 : q = k <;> simp [al, ual, sal, va_up, vp_updL, h2]
  · simp [al, ual, sal, va_up, h]
theorem ar_ui (S : St) (f i : Nat) (v : Int32) : ar (ui S f i v) = ar S := rfl
theorem ar_ur (S : St) (f i : Nat) (v : Option Nat) : ar (ur S f i v) = ar S := rfl
theorem ar_ul (S : St) (f i : Nat) (v : Int64) : ar (ul S f i v) = ar S := rfl
theorem ar_uai (S : St) (i k : Nat) (v : Int32) : ar (uai S i k v) = ar S := rfl
theorem ar_ual (S : St) (i k : Nat) (v : Int64) : ar (ual S i k v) = ar S := rfl
theorem ar_sai (S : St) (i : Nat) (h : Nat → Int32) : ar (sai S i h) = ar S := rfl
theorem ar_uar (S : St) (i k : Nat) (v : Option Nat) (j q : Nat) : ar (uar S i k v) j q = if j = i ∧ q = k then v else ar S j q := by
  by_cases h : j = i
  · subst h
    by_cases h2 : q = k <;> simp [ar, uar, sar, va_up, h2]
  · simp [ar, uar, sar, va_up, h]
theorem si_ui (S : St) (f i : Nat) (v : Int32) (f' j : Nat) : si (ui S f i v) f' j = if f' = f ∧ j = i then v else si S f' j := rfl
theorem si_ur (S : St) (f i : Nat) (v : Option Nat) : si (ur S f i v) = si S := rfl
theorem si_ul (S : St) (f i : Nat) (v : Int64) : si (ul S f i v) = si S := rfl
theorem si_uai (S : St) (i k : Nat) (v : Int32) : si (uai S i k v) = si S := rfl
theorem si_ual (S : St) (i k : Nat) (v : Int64) : si (ual S i k v) = si S := rfl
theorem si_uar (S : St) (i k : Nat) (v : Option Nat) : si (uar S i k v) = si S := rfl
theorem si_sai (S : St) (i : Nat) (h : Nat → Int32) : si (sai S i h) = si S := rfl
theorem sr_ur (S : St) (f i : Nat) (v : Option Nat) (f' j : Nat) : sr (ur S f i v) f' j = if f' = f ∧ j = i then v else sr S f' j := rfl
theorem sl_ul (S : St) (f i : Nat) (v : Int64) (f' j : Nat) : sl (ul S f i v) f' j = if f' = f ∧ j = i then v else sl S f' j := rfl

/-- the fixed objects of class and model: what refers to what, and how long the arrays are -/
def fxR : List (Nat × Nat × Nat) := [(900, 0, 20), (901, 0, 22), (902, 0, 24), (905, 0, 27), (906, 0, 48), (907, 0, 69), (910, 0, 196), (0, 20, 21), (0, 22, 23), (100, 24, 20), (101, 24, 25), (102, 24, 26)]
def fxL : List (Nat × Nat) := [(21, 1200), (23, 2040), (25, 4), (26, 4), (69, 6), (196, 480)]
def spR : List (Nat × Nat × Nat) := [(704, 0, 1), (706, 0, 2), (707, 0, 3), (708, 0, 4), (709, 0, 5), (710, 0, 6), (711, 0, 13), (712, 0, 17), (714, 0, 18), (715, 0, 19), (803, 6, 7), (804, 6, 8), (805, 6, 9), (806, 6, 10), (807, 6, 11), (0, 11, 12), (200, 13, 14), (201, 13, 15), (202, 13, 16), (303, 19, 20)]
def spL : List (Nat × Nat) := [(1, 10), (2, 120), (3, 1200), (4, 1200), (5, 1200), (7, 480), (8, 480), (9, 480), (10, 480), (12, 0), (14, 60), (15, 60), (16, 60), (17, 1200), (18, 8), (20, 0)]
def ruR : List (Nat × Nat × Nat) := [(602, 0, 1), (603, 0, 3), (604, 0, 4), (605, 0, 5), (606, 0, 6), (607, 0, 8), (608, 0, 9), (609, 0, 10), (610, 0, 12), (611, 0, 13), (612, 0, 15), (613, 0, 16), (614, 0, 17), (615, 0, 18), (400, 1, 2), (400, 6, 7), (400, 10, 11), (400, 13, 14)]
def ruL : List (Nat × Nat) := [(2, 8), (3, 8), (4, 8), (5, 8), (7, 10), (8, 10), (9, 10), (11, 6), (12, 6), (14, 6), (15, 6), (16, 6), (17, 6), (18, 6)]
def spools : List Nat := [27, 48, 70, 91, 112, 133, 154, 175]
def SpF (S : St) (p : Nat) : Prop := (∀ q ∈ spR, sr S q.1 (p + q.2.1) = some (p + q.2.2)) ∧ ∀ q ∈ spL, ln S (p + q.1) = q.2
def RuF (S : St) (r : Nat) : Prop := (∀ q ∈ ruR, sr S q.1 (r + q.2.1) = some (r + q.2.2)) ∧ ∀ q ∈ ruL, ln S (r + q.1) = q.2
def FxF (S : St) : Prop := (∀ q ∈ fxR, sr S q.1 q.2.1 = some q.2.2) ∧ (∀ q ∈ fxL, ln S q.1 = q.2) ∧ (∀ p ∈ spools, SpF S p) ∧ ∀ i, i < 6 → ar S 69 i = some (70 + 21 * i)
theorem FxF.r900_0 {S : St} (h : FxF S) : sr S 900 0 = some 20 := h.1 (900, 0, 20) (by decide)
theorem FxF.r901_0 {S : St} (h : FxF S) : sr S 901 0 = some 22 := h.1 (901, 0, 22) (by decide)
theorem FxF.r902_0 {S : St} (h : FxF S) : sr S 902 0 = some 24 := h.1 (902, 0, 24) (by decide)
theorem FxF.r905_0 {S : St} (h : FxF S) : sr S 905 0 = some 27 := h.1 (905, 0, 27) (by decide)
theorem FxF.r906_0 {S : St} (h : FxF S) : sr S 906 0 = some 48 := h.1 (906, 0, 48) (by decide)
theorem FxF.r907_0 {S : St} (h : FxF S) : sr S 907 0 = some 69 := h.1 (907, 0, 69) (by decide)
theorem FxF.r910_0 {S : St} (h : FxF S) : sr S 910 0 = some 196 := h.1 (910, 0, 196) (by decide)
theorem FxF.r0_20 {S : St} (h : FxF S) : sr S 0 20 = some 21 := h.1 (0, 20, 21) (by decide)
theorem FxF.r0_22 {S : St} (h : FxF S) : sr S 0 22 = some 23 := h.1 (0, 22, 23) (by decide)
theorem FxF.r100_24 {S : St} (h : FxF S) : sr S 100 24 = some 20 := h.1 (100, 24, 20) (by decide)
theorem FxF.r101_24 {S : St} (h : FxF S) : sr S 101 24 = some 25 := h.1 (101, 24, 25) (by decide)
theorem FxF.r102_24 {S : St} (h : FxF S) : sr S 102 24 = some 26 := h.1 (102, 24, 26) (by decide)
theorem FxF.l21 {S : St} (h : FxF S) : ln S 21 = 1200 := h.2.1 (21, 1200) (by decide)
theorem FxF.l23 {S : St} (h : FxF S) : ln S 23 = 2040 := h.2.1 (23, 2040) (by decide)
theorem FxF.l25 {S : St} (h : FxF S) : ln S 25 = 4 := h.2.1 (25, 4) (by decide)
theorem FxF.l26 {S : St} (h : FxF S) : ln S 26 = 4 := h.2.1 (26, 4) (by decide)
theorem FxF.l69 {S : St} (h : FxF S) : ln S 69 = 6 := h.2.1 (69, 6) (by decide)
theorem FxF.l196 {S : St} (h : FxF S) : ln S 196 = 480 := h.2.1 (196, 480) (by decide)
theorem SpF.r704_0 {S : St} {p : Nat} (h : SpF S p) : sr S 704 p = some (p + 1) := h.1 (704, 0, 1) (by decide)
theorem SpF.r706_0 {S : St} {p : Nat} (h : SpF S p) : sr S 706 p = some (p + 2) := h.1 (706, 0, 2) (by decide)
theorem SpF.r707_0 {S : St} {p : Nat} (h : SpF S p) : sr S 707 p = some (p + 3) := h.1 (707, 0, 3) (by decide)
theorem SpF.r708_0 {S : St} {p : Nat} (h : SpF S p) : sr S 708 p = some (p + 4) := h.1 (708, 0, 4) (by decide)
theorem SpF.r709_0 {S : St} {p : Nat} (h : SpF S p) : sr S 709 p = some (p + 5) := h.1 (709, 0, 5) (by decide)
theorem SpF.r710_0 {S : St} {p : Nat} (h : SpF S p) : sr S 710 p = some (p + 6) := h.1 (710, 0, 6) (by decide)
theorem SpF.r711_0 {S : St} {p : Nat} (h : SpF S p) : sr S 711 p = some (p + 13) := h.1 (711, 0, 13) (by decide)
theorem SpF.r712_0 {S : St} {p : Nat} (h : SpF S p) : sr S 712 p = some (p + 17) := h.1 (712, 0, 17) (by decide)
theorem SpF.r714_0 {S : St} {p : Nat} (h : SpF S p) : sr S 714 p = some (p + 18) := h.1 (714, 0, 18) (by decide)
theorem SpF.r715_0 {S : St} {p : Nat} (h : SpF S p) : sr S 715 p = some (p + 19) := h.1 (715, 0, 19) (by decide)
theorem SpF.r803_6 {S : St} {p : Nat} (h : SpF S p) : sr S 803 (p + 6) = some (p + 7) := h.1 (803, 6, 7) (by decide)
theorem SpF.r804_6 {S : St} {p : Nat} (h : SpF S p) : sr S 804 (p + 6) = some (p + 8) := h.1 (804, 6, 8) (by decide)
theorem SpF.r805_6 {S : St} {p : Nat} (h : SpF S p) : sr S 805 (p + 6) = some (p + 9) := h.1 (805, 6, 9) (by decide)
theorem SpF.r806_6 {S : St} {p : Nat} (h : SpF S p) : sr S 806 (p + 6) = some (p + 10) := h.1 (806, 6, 10) (by decide)
theorem SpF.r807_6 {S : St} {p : Nat} (h : SpF S p) : sr S 807 (p + 6) = some (p + 11) := h.1 (807, 6, 11) (by decide)
theorem SpF.r0_11 {S : St} {p : Nat} (h : SpF S p) : sr S 0 (p + 11) = some (p + 12) := h.1 (0, 11, 12) (by decide)
theorem SpF.r200_13 {S : St} {p : Nat} (h : SpF S p) : sr S 200 (p + 13) = some (p + 14) := h.1 (200, 13, 14) (by decide)
theorem SpF.r201_13 {S : St} {p : Nat} (h : SpF S p) : sr S 201 (p + 13) = some (p + 15) := h.1 (201, 13, 15) (by decide)
theorem SpF.r202_13 {S : St} {p : Nat} (h : SpF S p) : sr S 202 (p + 13) = some (p + 16) := h.1 (202, 13, 16) (by decide)
theorem SpF.r303_19 {S : St} {p : Nat} (h : SpF S p) : sr S 303 (p + 19) = some (p + 20) := h.1 (303, 19, 20) (by decide)
theorem SpF.l1 {S : St} {p : Nat} (h : SpF S p) : ln S (p + 1) = 10 := h.2 (1, 10) (by decide)
theorem SpF.l2 {S : St} {p : Nat} (h : SpF S p) : ln S (p + 2) = 120 := h.2 (2, 120) (by decide)
theorem SpF.l3 {S : St} {p : Nat} (h : SpF S p) : ln S (p + 3) = 1200 := h.2 (3, 1200) (by decide)
theorem SpF.l4 {S : St} {p : Nat} (h : SpF S p) : ln S (p + 4) = 1200 := h.2 (4, 1200) (by decide)
theorem SpF.l5 {S : St} {p : Nat} (h : SpF S p) : ln S (p + 5) = 1200 := h.2 (5, 1200) (by decide)
theorem SpF.l7 {S : St} {p : Nat} (h : SpF S p) : ln S (p + 7) = 480 := h.2 (7, 480) (by decide)
theorem SpF.l8 {S : St} {p : Nat} (h : SpF S p) : ln S (p + 8) = 480 := h.2 (8, 480) (by decide)
theorem SpF.l9 {S : St} {p : Nat} (h : SpF S p) : ln S (p + 9) = 480 := h.2 (9, 480) (by decide)
theorem SpF.l10 {S : St} {p : Nat} (h : SpF S p) : ln S (p + 10) = 480 := h.2 (10, 480) (by decide)
theorem SpF.l12 {S : St} {p : Nat} (h : SpF S p) : ln S (p + 12) = 0 := h.2 (12, 0) (by decide)
theorem SpF.l14 {S : St} {p : Nat} (h : SpF S p) : ln S (p + 14) = 60 := h.2 (14, 60) (by decide)
theorem SpF.l15 {S : St} {p : Nat} (h : SpF S p) : ln S (p + 15) = 60 := h.2 (15, 60) (by decide)
theorem SpF.l16 {S : St} {p : Nat} (h : SpF S p) : ln S (p + 16) = 60 := h.2 (16, 60) (by decide)
theorem SpF.l17 {S : St} {p : Nat} (h : SpF S p) : ln S (p + 17) = 1200 := h.2 (17, 1200) (by decide)
theorem SpF.l18 {S : St} {p : Nat} (h : SpF S p) : ln S (p + 18) = 8 := h.2 (18, 8) (by decide)
theorem SpF.l20 {S : St} {p : Nat} (h : SpF S p) : ln S (p + 20) = 0 := h.2 (20, 0) (by decide)
theorem RuF.r602_0 {S : St} {r : Nat} (h : RuF S r) : sr S 602 r = some (r + 1) := h.1 (602, 0, 1) (by decide)
theorem RuF.r603_0 {S : St} {r : Nat} (h : RuF S r) : sr S 603 r = some (r + 3) := h.1 (603, 0, 3) (by decide)
theorem RuF.r604_0 {S : St} {r : Nat} (h : RuF S r) : sr S 604 r = some (r + 4) := h.1 (604, 0, 4) (by decide)
theorem RuF.r605_0 {S : St} {r : Nat} (h : RuF S r) : sr S 605 r = some (r + 5) := h.1 (605, 0, 5) (by decide)
theorem RuF.r606_0 {S : St} {r : Nat} (h : RuF S r) : sr S 606 r = some (r + 6) := h.1 (606, 0, 6) (by decide)
theorem RuF.r607_0 {S : St} {r : Nat} (h : RuF S r) : sr S 607 r = some (r + 8) := h.1 (607, 0, 8) (by decide)
theorem RuF.r608_0 {S : St} {r : Nat} (h : RuF S r) : sr S 608 r = some (r + 9) := h.1 (608, 0, 9) (by decide)
theorem RuF.r609_0 {S : St} {r : Nat} (h : RuF S r) : sr S 609 r = some (r + 10) := h.1 (609, 0, 10) (by decide)
theorem RuF.r610_0 {S : St} {r : Nat} (h : RuF S r) : sr S 610 r = some (r + 12) := h.1 (610, 0, 12) (by decide)
theorem RuF.r611_0 {S : St} {r : Nat} (h : RuF S r) : sr S 611 r = some (r + 13) := h.1 (611, 0, 13) (by decide)
theorem RuF.r612_0 {S : St} {r : Nat} (h : RuF S r) : sr S 612 r = some (r + 15) := h.1 (612, 0, 15) (by decide)
theorem RuF.r613_0 {S : St} {r : Nat} (h : RuF S r) : sr S 613 r = some (r + 16) := h.1 (613, 0, 16) (by decide)
theorem RuF.r614_0 {S : St} {r : Nat} (h : RuF S r) : sr S 614 r = some (r + 17) := h.1 (614, 0, 17) (by decide)
theorem RuF.r615_0 {S : St} {r : Nat} (h : RuF S r) : sr S 615 r = some (r + 18) := h.1 (615, 0, 18) (by decide)
theorem RuF.r400_1 {S : St} {r : Nat} (h : RuF S r) : sr S 400 (r + 1) = some (r + 2) := h.1 (400, 1, 2) (by decide)
theorem RuF.r400_6 {S : St} {r : Nat} (h : RuF S r) : sr S 400 (r + 6) = some (r + 7) := h.1 (400, 6, 7) (by decide)
theorem RuF.r400_10 {S : St} {r : Nat} (h : RuF S r) : sr S 400 (r + 10) = some (r + 11) := h.1 (400, 10, 11) (by decide)
theorem RuF.r400_13 {S : St} {r : Nat} (h : RuF S r) : sr S 400 (r + 13) = some (r + 14) := h.1 (400, 13, 14) (by decide)
theorem RuF.l2 {S : St} {r : Nat} (h : RuF S r) : ln S (r + 2) = 8 := h.2 (2, 8) (by decide)
theorem RuF.l3 {S : St} {r : Nat} (h : RuF S r) : ln S (r + 3) = 8 := h.2 (3, 8) (by decide)
theorem RuF.l4 {S : St} {r : Nat} (h : RuF S r) : ln S (r + 4) = 8 := h.2 (4, 8) (by decide)
theorem RuF.l5 {S : St} {r : Nat} (h : RuF S r) : ln S (r + 5) = 8 := h.2 (5, 8) (by decide)
theorem RuF.l7 {S : St} {r : Nat} (h : RuF S r) : ln S (r + 7) = 10 := h.2 (7, 10) (by decide)
theorem RuF.l8 {S : St} {r : Nat} (h : RuF S r) : ln S (r + 8) = 10 := h.2 (8, 10) (by decide)
theorem RuF.l9 {S : St} {r : Nat} (h : RuF S r) : ln S (r + 9) = 10 := h.2 (9, 10) (by decide)
theorem RuF.l11 {S : St} {r : Nat} (h : RuF S r) : ln S (r + 11) = 6 := h.2 (11, 6) (by decide)
theorem RuF.l12 {S : St} {r : Nat} (h : RuF S r) : ln S (r + 12) = 6 := h.2 (12, 6) (by decide)
theorem RuF.l14 {S : St} {r : Nat} (h : RuF S r) : ln S (r + 14) = 6 := h.2 (14, 6) (by decide)
theorem RuF.l15 {S : St} {r : Nat} (h : RuF S r) : ln S (r + 15) = 6 := h.2 (15, 6) (by decide)
theorem RuF.l16 {S : St} {r : Nat} (h : RuF S r) : ln S (r + 16) = 6 := h.2 (16, 6) (by decide)
theorem RuF.l17 {S : St} {r : Nat} (h : RuF S r) : ln S (r + 17) = 6 := h.2 (17, 6) (by decide)
theorem RuF.l18 {S : St} {r : Nat} (h : RuF S r) : ln S (r + 18) = 6 := h.2 (18, 6) (by decide)
theorem FxF.sp27 {S : St} (h : FxF S) : SpF S 27 := h.2.2.1 27 (by decide)
theorem FxF.sp48 {S : St} (h : FxF S) : SpF S 48 := h.2.2.1 48 (by decide)

