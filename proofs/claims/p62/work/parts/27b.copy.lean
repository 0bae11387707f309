/-! a spool is copied -/
def cpF (h g : Nat → Int32) (l : Nat) : Nat → Int32 := fun k => if k < l then h k else g k
theorem e_copyRow {F : Nat} {S : St} {a b l : Nat} (ha : ln S a = l) (hb : ln S b = l) (hl : l < 2 ^ 31) : f_X10_copyRow F S a b = some (sai S b (cpF (ai S a) (ai S b) l)) := by
  unfold f_X10_copyRow
  rw [ha, hb, if_neg (nI_nlt (Nat.le_refl _) hl), nI_clamp hl, ck_t ⟨nI_pos hl, Nat.le_refl _, Nat.le_refl _⟩, lt_eq]
  have e : va_cpy (ai S a) (ai S b) 0 0 l = cpF (ai S a) (ai S b) l := by
    funext k
    unfold va_cpy cpF
    by_cases z : k < l
    · rw [if_pos ⟨Nat.zero_le _, by omega⟩, if_pos z]
      simp
    · rw [if_neg (by omega), if_neg z]
  rw [e]
/-- the spool at d holds what the spool at s held -/
def CpR (S S' : St) (s d : Nat) : Prop :=
  (∀ i, ¬ (d ≤ i ∧ i ≤ d + 20) → SameO S S' i) ∧ (∀ f i, ¬ (f = 700 ∧ i = d) → sr S' f i = sr S f i) ∧ ln S' = ln S ∧
  sr S' 700 d = sr S 700 s ∧ (si S' 701 d = si S 701 s ∧ si S' 702 d = si S 702 s ∧ si S' 703 d = si S 703 s ∧ si S' 705 d = si S 705 s) ∧
  (si S' 800 (d + 6) = si S 800 (s + 6) ∧ si S' 801 (d + 6) = si S 801 (s + 6) ∧ si S' 802 (d + 6) = si S 802 (s + 6)) ∧ (si S' 203 (d + 13) = si S 203 (s + 13) ∧ si S' 204 (d + 13) = si S 204 (s + 13)) ∧
  (∀ j, j < 10 → ai S' (d + 1) j = ai S (s + 1) j) ∧ (∀ j, j < 1200 → ai S' (d + 3) j = ai S (s + 3) j ∧ ai S' (d + 4) j = ai S (s + 4) j ∧ ai S' (d + 5) j = ai S (s + 5) j) ∧
  (∀ j, j < 480 → ai S' (d + 8) j = ai S (s + 8) j ∧ ai S' (d + 9) j = ai S (s + 9) j ∧ ai S' (d + 10) j = ai S (s + 10) j ∧ ar S' (d + 7) j = ar S (s + 7) j) ∧ (∀ j, j < 120 → ar S' (d + 2) j = ar S (s + 2) j) ∧
  ∀ j, j < 60 → ai S' (d + 14) j = ai S (s + 14) j ∧ ai S' (d + 15) j = ai S (s + 15) j ∧ ai S' (d + 16) j = ai S (s + 16) j
/-- what a spool's copy writes may be read off row by row: each step keeps all but its own place -/
def WrA (S S' : St) (o : Nat) (g : Nat → Int32) : Prop := S' = sai S o g
def sarF (S : St) (a b l : Nat) : St := sar S b (fun k => if k < l then ar S a k else ar S b k)
theorem va_up2 {α : Type} (f : Nat → α) (i : Nat) (g h : α) : va_up (va_up f i g) i h = va_up f i h := by
  funext x
  unfold va_up
  by_cases z : x = i
  · simp only [z, if_true]
  · simp only [z, if_false]
theorem sar_sar (S : St) (i : Nat) (g h : Nat → Option Nat) : sar (sar S i g) i h = sar S i h := by
  unfold sar
  show (S.1, S.2.1, S.2.2.1, S.2.2.2.1, S.2.2.2.2.1, va_up (va_up S.2.2.2.2.2.1 i g) i h, S.2.2.2.2.2.2) = _
  rw [va_up2]
theorem ar_sar (S : St) (i : Nat) (h : Nat → Option Nat) (j : Nat) : ar (sar S i h) j = if j = i then h else ar S j := rfl
theorem sr_sar (S : St) (i : Nat) (h : Nat → Option Nat) : sr (sar S i h) = sr S := rfl
theorem si_sar (S : St) (i : Nat) (h : Nat → Option Nat) : si (sar S i h) = si S := rfl
theorem ai_sar (S : St) (i : Nat) (h : Nat → Option Nat) : ai (sar S i h) = ai S := rfl
theorem al_sar (S : St) (i : Nat) (h : Nat → Option Nat) : al (sar S i h) = al S := rfl
theorem ln_sar (S : St) (i : Nat) (h : Nat → Option Nat) : ln (sar S i h) = ln S := rfl
theorem SameO.sar {S : St} {a b l j : Nat} (_ : True) (h : ¬ j = b) : SameO S (sarF S a b l) j := ⟨fun _ => rfl, fun _ => rfl, rfl, rfl, by unfold sarF; rw [ar_sar, if_neg h], rfl⟩
theorem uar_f {S : St} {a b k l : Nat} (hab : ¬ a = b) : uar (sarF S a b k) b k (ar S a k) = sarF S a b (k + 1) := by
  unfold sarF uar
  rw [sar_sar]
  congr 1
  funext j
  unfold va_up
  rw [ar_sar, if_pos rfl]
  by_cases z : j = k
  · rw [if_pos z, if_pos (by omega), z]
  · rw [if_neg z]
    by_cases y : j < k
    · rw [if_pos y, if_pos (by omega)]
    · rw [if_neg y, if_neg (by omega)]
theorem sarF_0 (S : St) (a b : Nat) : sarF S a b 0 = sar S b (ar S b) := by
  unfold sarF
  congr 1
theorem sar_self (S : St) (b : Nat) : sar S b (ar S b) = S := by
  unfold sar ar
  show (S.1, S.2.1, S.2.2.1, S.2.2.2.1, S.2.2.2.2.1, va_up S.2.2.2.2.2.1 b (S.2.2.2.2.2.1 b), S.2.2.2.2.2.2) = S
  have e : va_up S.2.2.2.2.2.1 b (S.2.2.2.2.2.1 b) = S.2.2.2.2.2.1 := by
    funext x
    unfold va_up
    by_cases z : x = b
    · rw [if_pos z, z]
    · rw [if_neg z]
  rw [e]
section Cp
variable {F : Nat} {S : St} {s d : Nat}
theorem e_cpMsgs (hs : SpF S s) (hd : SpF S d) (hsd : s + 20 < d ∨ d + 20 < s) (hF : 1000 ≤ F) : f_X8_copyFrom_L53 F F S d s 0 = f_X8_copyFrom_L89 F (sarF S (s + 2) (d + 2) 120) d s := by
  have r1 := hs.r706_0
  have r2 := hd.r706_0
  have l1 := hs.l2
  have l2 := hd.l2
  have g : ∀ c k fu, k + c = 120 → c < fu → f_X8_copyFrom_L53 F fu (sarF S (s + 2) (d + 2) k) d s (nI k) = f_X8_copyFrom_L89 F (sarF S (s + 2) (d + 2) 120) d s := by
    intro c
    induction c with
    | zero =>
      intro k fu hk hfu
      obtain ⟨fu, rfl⟩ : ∃ f', fu = f' + 1 := ⟨fu - 1, by omega⟩
      have : k = 120 := by omega
      subst this
      conv => lhs; unfold f_X8_copyFrom_L53
      rw [show sr (sarF S (s + 2) (d + 2) 120) = sr S from rfl, show ln (sarF S (s + 2) (d + 2) 120) = ln S from rfl, r2, ob_some, l2, if_pos (nI_le (Nat.le_refl _) (by omega))]
    | succ c ih =>
      intro k fu hk hfu
      obtain ⟨fu, rfl⟩ : ∃ f', fu = f' + 1 := ⟨fu - 1, by omega⟩
      rw [← ih (k + 1) fu (by omega) (by omega)]
      conv => lhs; unfold f_X8_copyFrom_L53
      have a1 : ar (sarF S (s + 2) (d + 2) k) (s + 2) = ar S (s + 2) := by unfold sarF; rw [ar_sar, if_neg (by omega)]
      have u := uar_f (S := S) (a := s + 2) (b := d + 2) (k := k) (l := 0) (by omega)
      rw [show sr (sarF S (s + 2) (d + 2) k) = sr S from rfl, show ln (sarF S (s + 2) (d + 2) k) = ln S from rfl, r2, ob_some, l2, if_neg (nI_ge (by omega) (by omega)), r1, ob_some, l1, if_neg (nI_ge (by omega) (by omega)), ob_some, ob_some, l1, l2, cki_nI (by omega) (by omega), nI_clamp (by omega), a1]
      cases e : ar S (s + 2) k with
      | none =>
        rw [os_n, cki_nI (by omega) (by omega), lt_eq, lt_eq, nI_1]
        rw [e] at u
        rw [u]
      | some j =>
        rw [os_s, cki_nI (by omega) (by omega), lt_eq, lt_eq, nI_1]
        rw [e] at u
        rw [u]
  have := g 120 0 F (by omega) (by omega)
  rw [sarF_0, sar_self] at this
  exact this
theorem e_cpParts (hs : SpF S s) (hd : SpF S d) (hsd : s + 20 < d ∨ d + 20 < s) (hF : 1000 ≤ F) : f_X9_copyFrom_L26 F F S (d + 6) (s + 6) 0 = f_X9_copyFrom_L62 F (sarF S (s + 7) (d + 7) 480) (d + 6) (s + 6) := by
  have r1 := hs.r803_6
  have r2 := hd.r803_6
  have l1 := hs.l7
  have l2 := hd.l7
  have g : ∀ c k fu, k + c = 480 → c < fu → f_X9_copyFrom_L26 F fu (sarF S (s + 7) (d + 7) k) (d + 6) (s + 6) (nI k) = f_X9_copyFrom_L62 F (sarF S (s + 7) (d + 7) 480) (d + 6) (s + 6) := by
    intro c
    induction c with
    | zero =>
      intro k fu hk hfu
      obtain ⟨fu, rfl⟩ : ∃ f', fu = f' + 1 := ⟨fu - 1, by omega⟩
      have : k = 480 := by omega
      subst this
      conv => lhs; unfold f_X9_copyFrom_L26
      rw [show sr (sarF S (s + 7) (d + 7) 480) = sr S from rfl, show ln (sarF S (s + 7) (d + 7) 480) = ln S from rfl, r2, ob_some, l2, if_pos (nI_le (Nat.le_refl _) (by omega))]
    | succ c ih =>
      intro k fu hk hfu
      obtain ⟨fu, rfl⟩ : ∃ f', fu = f' + 1 := ⟨fu - 1, by omega⟩
      rw [← ih (k + 1) fu (by omega) (by omega)]
      conv => lhs; unfold f_X9_copyFrom_L26
      have a1 : ar (sarF S (s + 7) (d + 7) k) (s + 7) = ar S (s + 7) := by unfold sarF; rw [ar_sar, if_neg (by omega)]
      have u := uar_f (S := S) (a := s + 7) (b := d + 7) (k := k) (l := 0) (by omega)
      rw [show sr (sarF S (s + 7) (d + 7) k) = sr S from rfl, show ln (sarF S (s + 7) (d + 7) k) = ln S from rfl, r2, ob_some, l2, if_neg (nI_ge (by omega) (by omega)), r1, ob_some, l1, if_neg (nI_ge (by omega) (by omega)), ob_some, ob_some, l1, l2, cki_nI (by omega) (by omega), nI_clamp (by omega), a1]
      cases e : ar S (s + 7) k with
      | none =>
        rw [os_n, cki_nI (by omega) (by omega), lt_eq, lt_eq, nI_1]
        rw [e] at u
        rw [u]
      | some j =>
        rw [os_s, cki_nI (by omega) (by omega), lt_eq, lt_eq, nI_1]
        rw [e] at u
        rw [u]
  have := g 480 0 F (by omega) (by omega)
  rw [sarF_0, sar_self] at this
  exact this
end Cp
