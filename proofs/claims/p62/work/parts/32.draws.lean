/-! what the script asks for: numbers -/
def drX (X : XS) (k n : Nat) : Nat := (if k < X.2 then (X.1 k).toBitVec.toNat % 2 ^ 31 else 0) % n
theorem drX_lt (X : XS) (k : Nat) {n : Nat} (h : 0 < n) : drX X k n < n := Nat.mod_lt _ h
def grX (X : XS) : Nat := drX X 0 6
def inX (X : XS) : Nat := 1 + drX X 1 5
def clX (X : XS) : Nat := 1 + drX X 2 4
def usX (X : XS) : Nat := 1 + drX X 3 3
def hoX (X : XS) : Nat := drX X 4 3
/-- days of a class: 0 means for ever -/
def dyX (X : XS) (c : Nat) : Nat := if drX X (10 + 4 * c) 6 = 0 then 0 else 1 + drX X (11 + 4 * c) 12
def kpX (X : XS) (c : Nat) : Nat := drX X (12 + 4 * c) 4 % 3
/-- the class that follows, and one more: 0 means none -/
def thX (X : XS) (c : Nat) : Nat := if c = 0 ∨ drX X (13 + 4 * c) 2 = 0 then 0 else 1 + drX X (13 + 4 * c) (2 * c) / 2
def coX (X : XS) (u : Nat) : Nat := drX X (30 + 2 * u) (clX X)
def quX (X : XS) (u : Nat) : Nat := 10 + drX X (31 + 2 * u) 90
def hdX (X : XS) (h : Nat) : Nat := drX X (40 + 4 * h) (usX X)
def hfX (X : XS) (h : Nat) : Prop := drX X (41 + 4 * h) 2 = 0
def hwX (X : XS) (h : Nat) : Prop := drX X (42 + 4 * h) 2 = 0
def paX (X : XS) (m : Nat) : Nat := 1 + drX X (60 + 8 * m) 3
def soX (X : XS) (m i : Nat) : Nat := drX X (61 + 8 * m + i) 6
def reX (X : XS) (m : Nat) : Nat := 1 + drX X (65 + 8 * m) (2 ^ usX X - 1)
/-- the special class, and one more: 0 means none -/
def spX (X : XS) (m : Nat) : Nat := if drX X (66 + 8 * m) 3 = 0 then 1 + drX X (67 + 8 * m) (clX X) else 0
def ptL (s : Nat) : List Int32 := msB.getD (15 + s) []
def szP (X : XS) (m : Nat) : Nat → Nat
  | 0 => 0
  | i + 1 => szP X m i + (ptL (soX X m i)).length
def siX (X : XS) (m : Nat) : Nat := szP X m (paX X m)
def abS (s : Nat) : Prop := s = 0 ∨ s = 1 ∨ s = 3
def abX (X : XS) (m : Nat) : Prop := ∃ i, i < paX X m ∧ abS (soX X m i)
theorem clX_b (X : XS) : 1 ≤ clX X ∧ clX X ≤ 4 := ⟨by unfold clX; omega, by have := drX_lt X 2 (n := 4) (by omega); unfold clX; omega⟩
theorem usX_b (X : XS) : 1 ≤ usX X ∧ usX X ≤ 3 := ⟨by unfold usX; omega, by have := drX_lt X 3 (n := 3) (by omega); unfold usX; omega⟩
theorem hoX_b (X : XS) : hoX X ≤ 2 := by have := drX_lt X 4 (n := 3) (by omega); unfold hoX; omega
theorem grX_b (X : XS) : grX X ≤ 5 := by have := drX_lt X 0 (n := 6) (by omega); unfold grX; omega
theorem inX_b (X : XS) : 1 ≤ inX X ∧ inX X ≤ 5 := ⟨by unfold inX; omega, by have := drX_lt X 1 (n := 5) (by omega); unfold inX; omega⟩
theorem dyX_b (X : XS) (c : Nat) : dyX X c ≤ 12 := by
  have := drX_lt X (11 + 4 * c) (n := 12) (by omega)
  unfold dyX; split <;> omega
theorem kpX_b (X : XS) (c : Nat) : kpX X c ≤ 2 := by unfold kpX; omega
theorem thX_b (X : XS) (c : Nat) : thX X c ≤ c := by
  unfold thX
  by_cases z : c = 0 ∨ drX X (13 + 4 * c) 2 = 0
  · rw [if_pos z]; omega
  · rw [if_neg z]
    have := drX_lt X (13 + 4 * c) (n := 2 * c) (by omega)
    omega
theorem coX_b (X : XS) (u : Nat) : coX X u < clX X := drX_lt X _ (clX_b X).1
theorem quX_b (X : XS) (u : Nat) : 10 ≤ quX X u ∧ quX X u ≤ 99 := ⟨by unfold quX; omega, by have := drX_lt X (31 + 2 * u) (n := 90) (by omega); unfold quX; omega⟩
theorem hdX_b (X : XS) (u : Nat) : hdX X u < usX X := drX_lt X _ (usX_b X).1
theorem paX_b (X : XS) (m : Nat) : 1 ≤ paX X m ∧ paX X m ≤ 3 := ⟨by unfold paX; omega, by have := drX_lt X (60 + 8 * m) (n := 3) (by omega); unfold paX; omega⟩
theorem soX_b (X : XS) (m i : Nat) : soX X m i < 6 := drX_lt X _ (by omega)
theorem us_pow (X : XS) : 2 ≤ 2 ^ usX X ∧ 2 ^ usX X ≤ 8 := by
  have := usX_b X
  rcases (by omega : usX X = 1 ∨ usX X = 2 ∨ usX X = 3) with h | h | h <;> rw [h] <;> decide
theorem reX_b (X : XS) (m : Nat) : 1 ≤ reX X m ∧ reX X m < 2 ^ usX X := by
  have := us_pow X
  have := drX_lt X (65 + 8 * m) (n := 2 ^ usX X - 1) (by omega)
  unfold reX; omega
theorem spX_b (X : XS) (m : Nat) : spX X m ≤ clX X := by
  have := drX_lt X (67 + 8 * m) (n := clX X) (clX_b X).1
  unfold spX; split <;> omega
theorem ptL_b : ∀ s, s < 6 → 1 ≤ (ptL s).length ∧ (ptL s).length ≤ 8 := by decide
theorem szP_b (X : XS) (m i : Nat) : szP X m i ≤ 8 * i := by
  induction i with
  | zero => exact Nat.le_refl _
  | succ i ih =>
    have := (ptL_b _ (soX_b X m i)).2
    show szP X m i + _ ≤ _
    omega
theorem szP_lo (X : XS) (m i : Nat) : i ≤ szP X m i := by
  induction i with
  | zero => exact Nat.le_refl _
  | succ i ih =>
    have := (ptL_b _ (soX_b X m i)).1
    show _ ≤ szP X m i + _
    omega
theorem nI_div {a b : Nat} (ha : a < 2 ^ 31) (hb : b < 2 ^ 31) : nI a / nI b = nI (a / b) := by
  have hd : a / b ≤ a := Nat.div_le_self a b
  apply Int32.toInt_inj.mp
  rw [Int32.toInt_div, nI_toInt ha, nI_toInt hb, nI_toInt (by omega), ← Int.ofNat_tdiv, Int.bmod_def]
  generalize a / b = c at hd
  split <;> omega
theorem nI_n0 {a : Nat} (h : ¬ a = 0) (ha : a < 2 ^ 31) : ¬ nI a = (0 : Int32) := fun y => h ((nI_eq (b := 0) ha (by omega)).mp y)
section Dr
variable {F : Nat} {S : St} {X : XS}
theorem e_draw {k n : Nat} (hX : X.2 ≤ 260) (hk : k < 2 ^ 31) (h0 : 0 < n) (hn : n < 2 ^ 31) : f_L_draw F S X (nI k) (nI n) = some (nI (drX X k n), S) := by
  have p2 : ¬ nI n = (0 : Int32) := fun e => by have := (nI_eq (b := 0) hn (by omega)).mp e; omega
  unfold f_L_draw drX
  by_cases z : X.2 ≤ k
  · rw [if_pos (show Int32.ofNat X.2 ≤ nI k from nI_le z hk), ck_t p2, if_neg (show ¬ k < X.2 by omega), show ((0 : Int32) &&& 2147483647) = nI 0 by decide, pk_rem (by omega) h0 hn]
  · rw [if_neg (show ¬ Int32.ofNat X.2 ≤ nI k from nI_ge (by omega) (by omega)), cki_nI (by omega) (by omega), ck_t p2, nI_clamp (by omega), if_pos (show k < X.2 by omega), pk_and (X.1 k) (m := 2147483647) 31 (by decide), pk_rem (Nat.mod_lt _ (by decide)) h0 hn]
theorem e_draw2 {a b c n : Nat} (hX : X.2 ≤ 260) (hk : a + b * c < 2 ^ 31) (h0 : 0 < n) (hn : n < 2 ^ 31) : f_L_draw F S X (nI a + nI b * nI c) (nI n) = some (nI (drX X (a + b * c) n), S) := by
  rw [nI_mul, nI_add]
  exact e_draw hX hk h0 hn
theorem e_grace (hX : X.2 ≤ 260) : f_L_grace F S X = some (nI (grX X), S) := by
  unfold f_L_grace
  rw [show f_L_draw F S X 0 6 = _ from e_draw (k := 0) (n := 6) hX (by omega) (by omega) (by omega), ob_some]
  rfl
theorem e_interval (hX : X.2 ≤ 260) : f_L_interval F S X = some (nI (inX X), S) := by
  unfold f_L_interval
  rw [show f_L_draw F S X 1 5 = _ from e_draw (k := 1) (n := 5) hX (by omega) (by omega) (by omega), ob_some]
  simp only [lt_eq]
  rw [nI_1a]
  rfl
theorem e_classes (hX : X.2 ≤ 260) : f_L_classes F S X = some (nI (clX X), S) := by
  unfold f_L_classes
  rw [show f_L_draw F S X 2 4 = _ from e_draw (k := 2) (n := 4) hX (by omega) (by omega) (by omega), ob_some]
  simp only [lt_eq]
  rw [nI_1a]
  rfl
theorem e_usersL (hX : X.2 ≤ 260) : f_L_users F S X = some (nI (usX X), S) := by
  unfold f_L_users
  rw [show f_L_draw F S X 3 3 = _ from e_draw (k := 3) (n := 3) hX (by omega) (by omega) (by omega), ob_some]
  simp only [lt_eq]
  rw [nI_1a]
  rfl
theorem e_holds (hX : X.2 ≤ 260) : f_L_holds F S X = some (nI (hoX X), S) := by
  unfold f_L_holds
  rw [show f_L_draw F S X 4 3 = _ from e_draw (k := 4) (n := 3) hX (by omega) (by omega) (by omega), ob_some]
  rfl
/-- days as the law has them -/
def dyI (X : XS) (c : Nat) : Int32 := if dyX X c = 0 then -1 else nI (dyX X c)
def thI (X : XS) (c : Nat) : Int32 := if thX X c = 0 then -1 else nI (thX X c - 1)
def spI (X : XS) (m : Nat) : Int32 := if spX X m = 0 then -1 else nI (spX X m - 1)
theorem e_days {c : Nat} (hX : X.2 ≤ 260) (hc : c < 100) : f_L_days F S X (nI c) = some (dyI X c, S) := by
  have a := drX_lt X (10 + 4 * c) (n := 6) (by omega)
  unfold f_L_days dyI dyX
  rw [show f_L_draw F S X (10 + (4 * nI c)) 6 = _ from e_draw2 (a := 10) (b := 4) (n := 6) hX (by omega) (by omega) (by omega), ob_some]
  simp only [lt_eq]
  by_cases z : drX X (10 + 4 * c) 6 = 0
  · rw [if_neg (fun y => y (by rw [z]; rfl)), if_pos (by rw [if_pos z])]
  · rw [if_pos (nI_n0 z (by omega)), show f_L_draw F S X (11 + (4 * nI c)) 12 = _ from e_draw2 (a := 11) (b := 4) (n := 12) hX (by omega) (by omega) (by omega), ob_some]
    simp only [lt_eq]
    rw [nI_1a, if_neg z, if_neg (by omega)]
theorem e_keep {c : Nat} (hX : X.2 ≤ 260) (hc : c < 100) : f_L_keep F S X (nI c) = some (nI (kpX X c), S) := by
  have a := drX_lt X (12 + 4 * c) (n := 4) (by omega)
  unfold f_L_keep kpX
  rw [show f_L_draw F S X (12 + (4 * nI c)) 4 = _ from e_draw2 (a := 12) (b := 4) (n := 4) hX (by omega) (by omega) (by omega), ob_some]
  simp only [lt_eq]
  rw [show nI (drX X (12 + 4 * c) 4) - nI (drX X (12 + 4 * c) 4) / 3 * 3 = _ from pk_rem (d := 3) (by omega) (by omega) (by omega)]
theorem e_then {c : Nat} (hX : X.2 ≤ 260) (hc : c < 100) : f_L_then F S X (nI c) = some (thI X c, S) := by
  unfold f_L_then thI thX
  by_cases z : c = 0
  · rw [if_pos (by rw [z]; rfl), if_pos (by rw [if_pos (Or.inl z)])]
  have a := drX_lt X (13 + 4 * c) (n := 2) (by omega)
  rw [if_neg (nI_n0 z (by omega)), show f_L_draw F S X (13 + (4 * nI c)) 2 = _ from e_draw2 (a := 13) (b := 4) (n := 2) hX (by omega) (by omega) (by omega), ob_some]
  simp only [lt_eq]
  by_cases y : drX X (13 + 4 * c) 2 = 0
  · rw [if_neg (fun x => x (by rw [y]; rfl)), if_pos (by rw [if_pos (Or.inr y)])]
  · have b := drX_lt X (13 + 4 * c) (n := 2 * c) (by omega)
    have e2 : f_L_draw F S X (13 + (4 * nI c)) (2 * nI c) = some (nI (drX X (13 + 4 * c) (2 * c)), S) := by
      rw [show (2 : Int32) * nI c = nI (2 * c) from nI_mul 2 c]
      exact e_draw2 (a := 13) (b := 4) hX (by omega) (by omega) (by omega)
    have nz : ¬ (c = 0 ∨ drX X (13 + 4 * c) 2 = 0) := fun x => x.elim z y
    rw [if_pos (nI_n0 y (by omega)), e2, ob_some]
    simp only [lt_eq]
    rw [if_neg nz, if_neg (by omega), show nI (drX X (13 + 4 * c) (2 * c)) / 2 = _ from nI_div (b := 2) (by omega) (by omega), show 1 + drX X (13 + 4 * c) (2 * c) / 2 - 1 = drX X (13 + 4 * c) (2 * c) / 2 by omega]
theorem e_classOf {u : Nat} (hX : X.2 ≤ 260) (hu : u < 100) : f_L_classOf F S X (nI u) = some (nI (coX X u), S) := by
  have := clX_b X
  unfold f_L_classOf
  rw [e_classes hX, ob_some]
  simp only [lt_eq]
  rw [show f_L_draw F S X (30 + (2 * nI u)) (nI (clX X)) = _ from e_draw2 (a := 30) (b := 2) hX (by omega) (by omega) (by omega), ob_some]
  rfl
theorem e_quota {u : Nat} (hX : X.2 ≤ 260) (hu : u < 100) : f_L_quota F S X (nI u) = some (nI (quX X u), S) := by
  unfold f_L_quota
  rw [show f_L_draw F S X (31 + (2 * nI u)) 90 = _ from e_draw2 (a := 31) (b := 2) (n := 90) hX (by omega) (by omega) (by omega), ob_some]
  simp only [lt_eq]
  rw [show (10 : Int32) + nI (drX X (31 + 2 * u) 90) = _ from nI_add 10 _]
  rfl
theorem e_holder {h : Nat} (hX : X.2 ≤ 260) (hu : h < 100) : f_L_holder F S X (nI h) = some (nI (hdX X h), S) := by
  have := usX_b X
  unfold f_L_holder
  rw [e_usersL hX, ob_some]
  simp only [lt_eq]
  rw [show f_L_draw F S X (40 + (4 * nI h)) (nI (usX X)) = _ from e_draw2 (a := 40) (b := 4) hX (by omega) (by omega) (by omega), ob_some]
  rfl
theorem e_hasDays {h : Nat} (hX : X.2 ≤ 260) (hu : h < 100) : f_L_hasDays F S X (nI h) = some (pI (hfX X h), S) := by
  have a := drX_lt X (41 + 4 * h) (n := 2) (by omega)
  unfold f_L_hasDays
  rw [show f_L_draw F S X (41 + (4 * nI h)) 2 = _ from e_draw2 (a := 41) (b := 4) (n := 2) hX (by omega) (by omega) (by omega), ob_some]
  simp only [lt_eq]
  by_cases z : drX X (41 + 4 * h) 2 = 0
  · rw [if_neg (fun x => x (by rw [z]; rfl)), pI_t (show hfX X h from z)]
  · rw [if_pos (nI_n0 z (by omega)), pI_f (show ¬ hfX X h from z)]
theorem e_hasWordL {h : Nat} (hX : X.2 ≤ 260) (hu : h < 100) : f_L_hasWord F S X (nI h) = some (pI (hwX X h), S) := by
  have a := drX_lt X (42 + 4 * h) (n := 2) (by omega)
  unfold f_L_hasWord
  rw [show f_L_draw F S X (42 + (4 * nI h)) 2 = _ from e_draw2 (a := 42) (b := 4) (n := 2) hX (by omega) (by omega) (by omega), ob_some]
  simp only [lt_eq]
  by_cases z : drX X (42 + 4 * h) 2 = 0
  · rw [if_neg (fun x => x (by rw [z]; rfl)), pI_t (show hwX X h from z)]
  · rw [if_pos (nI_n0 z (by omega)), pI_f (show ¬ hwX X h from z)]
theorem e_parts {m : Nat} (hX : X.2 ≤ 260) (hm : m < 100) : f_L_parts F S X (nI m) = some (nI (paX X m), S) := by
  unfold f_L_parts
  rw [show f_L_draw F S X (60 + (8 * nI m)) 3 = _ from e_draw2 (a := 60) (b := 8) (n := 3) hX (by omega) (by omega) (by omega), ob_some]
  simp only [lt_eq]
  rw [nI_1a]
  rfl
theorem e_sort {m i : Nat} (hX : X.2 ≤ 260) (hm : m < 100) (hi : i < 100) : f_L_sort F S X (nI m) (nI i) = some (nI (soX X m i), S) := by
  unfold f_L_sort
  rw [show (61 : Int32) + 8 * nI m + nI i = nI (61 + 8 * m + i) by rw [show (8 : Int32) * nI m = nI (8 * m) from nI_mul 8 m, show (61 : Int32) + nI (8 * m) = nI (61 + 8 * m) from nI_add 61 _, nI_add], show f_L_draw F S X (nI (61 + 8 * m + i)) 6 = _ from e_draw (n := 6) hX (by omega) (by omega) (by omega), ob_some]
  rfl
theorem e_sort0 {m : Nat} (hX : X.2 ≤ 260) (hm : m < 100) : f_L_sort F S X (nI m) 0 = some (nI (soX X m 0), S) := e_sort (i := 0) hX hm (by omega)
theorem e_part {s : Nat} (hs : s < 6) : f_L_part F S (nI s) = some (15 + s, S) := by
  unfold f_L_part
  rcases (by omega : s = 0 ∨ s = 1 ∨ s = 2 ∨ s = 3 ∨ s = 4 ∨ s = 5) with rfl | rfl | rfl | rfl | rfl | rfl <;> rfl
theorem e_recipients {m : Nat} (hX : X.2 ≤ 260) (hm : m < 100) : f_L_recipients F S X (nI m) = some (nI (reX X m), S) := by
  have b := us_pow X
  unfold f_L_recipients
  rw [e_usersL hX, ob_some]
  simp only [lt_eq]
  have e : ((1 : Int32) <<< (nI (usX X) &&& 31)) - 1 = nI (2 ^ usX X - 1) := by
    have := usX_b X
    rcases (by omega : usX X = 1 ∨ usX X = 2 ∨ usX X = 3) with h | h | h <;> rw [h] <;> decide
  rw [e, show f_L_draw F S X (65 + (8 * nI m)) (nI (2 ^ usX X - 1)) = _ from e_draw2 (a := 65) (b := 8) hX (by omega) (by omega) (by omega), ob_some]
  simp only [lt_eq]
  rw [nI_1a]
  rfl
theorem e_special {m : Nat} (hX : X.2 ≤ 260) (hm : m < 100) : f_L_special F S X (nI m) = some (spI X m, S) := by
  have a := drX_lt X (66 + 8 * m) (n := 3) (by omega)
  have := clX_b X
  unfold f_L_special spI spX
  rw [show f_L_draw F S X (66 + (8 * nI m)) 3 = _ from e_draw2 (a := 66) (b := 8) (n := 3) hX (by omega) (by omega) (by omega), ob_some]
  simp only [lt_eq]
  by_cases z : drX X (66 + 8 * m) 3 = 0
  · rw [if_neg (fun y => y (by rw [z]; rfl)), e_classes hX, ob_some]
    simp only [lt_eq]
    rw [show f_L_draw F S X (67 + (8 * nI m)) (nI (clX X)) = _ from e_draw2 (a := 67) (b := 8) hX (by omega) (by omega) (by omega), ob_some]
    simp only [lt_eq]
    rw [if_pos z, if_neg (by omega), Nat.add_sub_cancel_left]
  · rw [if_pos (nI_n0 z (by omega)), if_neg z, if_pos rfl]
theorem e_size4 {m : Nat} (hX : X.2 ≤ 260) (hm : m < 100) : ∀ d i fu, i + d = paX X m → d < fu → f_L_size_L4 F fu S X (nI m) (nI (szP X m i)) (nI i) = some (nI (siX X m), S) := by
  have b := paX_b X m
  intro d
  induction d with
  | zero =>
    intro i fu hi hfu
    obtain ⟨fu, rfl⟩ : ∃ q, fu = q + 1 := ⟨fu - 1, by omega⟩
    unfold f_L_size_L4
    rw [e_parts hX hm, ob_some]
    simp only [lt_eq]
    rw [if_pos (nI_le (by omega) (by omega)), show i = paX X m by omega]
    rfl
  | succ d ih =>
    intro i fu hi hfu
    obtain ⟨fu, rfl⟩ : ∃ q, fu = q + 1 := ⟨fu - 1, by omega⟩
    have so := soX_b X m i
    unfold f_L_size_L4
    rw [e_parts hX hm, ob_some]
    simp only [lt_eq]
    rw [if_neg (nI_ge (by omega) (by omega)), e_sort hX hm (by omega), ob_some]
    simp only [lt_eq]
    rw [e_part so, ob_some]
    simp only [lt_eq]
    rw [e_len (m := 0) (Tx.cst (by omega)), ob_some]
    simp only [lt_eq]
    rw [nI_add, show nI i + 1 = nI (i + 1) from nI_add i 1]
    exact ih (i + 1) fu (by omega) (by omega)
theorem e_size {m : Nat} (hX : X.2 ≤ 260) (hm : m < 100) (hF : 10 ≤ F) : f_L_size F S X (nI m) = some (nI (siX X m), S) := by
  have b := paX_b X m
  exact e_size4 hX hm (paX X m) 0 F (by omega) (by omega)
theorem e_hasAb2 {m : Nat} (hX : X.2 ≤ 260) (hm : m < 100) : ∀ d i fu, i + d = paX X m → d < fu → (∀ j, j < i → ¬ abS (soX X m j)) → f_L_hasAb_L2 F fu S X (nI m) (nI i) = some (pI (abX X m), S) := by
  have b := paX_b X m
  intro d
  induction d with
  | zero =>
    intro i fu hi hfu no
    obtain ⟨fu, rfl⟩ : ∃ q, fu = q + 1 := ⟨fu - 1, by omega⟩
    unfold f_L_hasAb_L2
    rw [e_parts hX hm, ob_some]
    simp only [lt_eq]
    rw [if_pos (nI_le (by omega) (by omega)), pI_f (fun ⟨j, j1, j2⟩ => no j (by omega) j2)]
  | succ d ih =>
    intro i fu hi hfu no
    obtain ⟨fu, rfl⟩ : ∃ q, fu = q + 1 := ⟨fu - 1, by omega⟩
    have so := soX_b X m i
    have sE : ∀ b, b < 100 → (nI (soX X m i) = nI b ↔ soX X m i = b) := fun b hb => nI_eq (by omega) (by omega)
    have s0 : nI (soX X m i) = (0 : Int32) ↔ soX X m i = 0 := sE 0 (by omega)
    have s1 : nI (soX X m i) = (1 : Int32) ↔ soX X m i = 1 := sE 1 (by omega)
    have s3 : nI (soX X m i) = (3 : Int32) ↔ soX X m i = 3 := sE 3 (by omega)
    unfold f_L_hasAb_L2
    rw [e_parts hX hm, ob_some]
    simp only [lt_eq]
    rw [if_neg (nI_ge (by omega) (by omega)), e_sort hX hm (by omega), ob_some]
    simp only [lt_eq]
    by_cases z0 : soX X m i = 0
    · rw [if_pos (s0.mpr z0), pI_t ⟨i, by omega, Or.inl z0⟩]
    rw [if_neg (fun y => z0 (s0.mp y)), e_sort hX hm (by omega), ob_some]
    simp only [lt_eq]
    by_cases z1 : soX X m i = 1
    · rw [if_pos (s1.mpr z1), pI_t ⟨i, by omega, Or.inr (Or.inl z1)⟩]
    rw [if_neg (fun y => z1 (s1.mp y)), e_sort hX hm (by omega), ob_some]
    simp only [lt_eq]
    by_cases z3 : soX X m i = 3
    · rw [if_neg (fun y => y (s3.mpr z3)), pI_t ⟨i, by omega, Or.inr (Or.inr z3)⟩]
    rw [if_pos (fun y => z3 (s3.mp y)), show nI i + 1 = nI (i + 1) from nI_add i 1]
    refine ih (i + 1) fu (by omega) (by omega) (fun j hj => ?_)
    by_cases e : j = i
    · rw [e]; intro y; unfold abS at y; omega
    · exact no j (by omega)
theorem e_hasAb {m : Nat} (hX : X.2 ≤ 260) (hm : m < 100) (hF : 10 ≤ F) : f_L_hasAb F S X (nI m) = some (pI (abX X m), S) := by
  have b := paX_b X m
  exact e_hasAb2 hX hm (paX X m) 0 F (by omega) (by omega) (fun j hj => absurd hj (by omega))
end Dr
