/-! the words of a text: what the class's parser reads -/
def byK (f : Nat → Int32) (k : Nat) : Int32 := f k &&& 255
abbrev digB (v : Int32) : Prop := 48 ≤ v ∧ v ≤ 57
abbrev blB (v : Int32) : Prop := v = 32 ∨ v = 10
/-- where the next token starts, where a word, a number ends -/
noncomputable def nbK (f : Nat → Int32) (L p : Nat) : Nat := fnd (fun k => ¬ blB (byK f k)) (L - p) p
noncomputable def weK (f : Nat → Int32) (L p : Nat) : Nat := fnd (fun k => ¬ letB (byK f k)) (L - p) p
noncomputable def deK (f : Nat → Int32) (L p : Nat) : Nat := fnd (fun k => ¬ digB (byK f k)) (L - p) p
/-- its kind, its end -/
noncomputable def kdK (f : Nat → Int32) (L s : Nat) : Nat := if L ≤ s then 0 else pif (letB (byK f s)) 1 (pif (digB (byK f s)) 2 3)
noncomputable def enK (f : Nat → Int32) (L s : Nat) : Nat := if L ≤ s then s else pif (letB (byK f s)) (weK f L s) (pif (digB (byK f s)) (deK f L s) (s + 1))
/-- a number as the class reads it -/
def ncK (f : Nat → Int32) (s c : Nat) : Int32 := runN (fun k v => if v * 10 + (byK f (s + k) - 48) < 10000000 then v * 10 + (byK f (s + k) - 48) else 10000000) c 0 0
/-- the keyword of a word -/
def kwK (w : Int64) : Nat → Option Nat := fun c => runN (fun i a => if lg_cmp (kwW.getD i 0) w = 0 then some i else a) c 0 none
/-- what reading a token writes -/
def PaF (n : Nat) (S T : St) : Prop := (∀ k, ¬ k = n → SameO S T k) ∧ (∀ g, ¬ g = 508 → sr T g n = sr S g n) ∧ (∀ g, ¬ (504 ≤ g ∧ g ≤ 506) → ¬ g = 509 → si T g n = si S g n) ∧ ai T = ai S ∧ al T = al S ∧ ar T = ar S ∧ ln T = ln S
section Pa
variable {n : Nat} {S T : St}
theorem PaF.rf : PaF n S S := ⟨fun k _ => SameO.rf S k, fun _ _ => rfl, fun _ _ _ => rfl, rfl, rfl, rfl, rfl⟩
theorem PaF.tr {U : St} (h : PaF n S T) (g : PaF n T U) : PaF n S U := ⟨fun k a => (h.1 k a).tr (g.1 k a), fun x a => (g.2.1 x a).trans (h.2.1 x a), fun x a b => (g.2.2.1 x a b).trans (h.2.2.1 x a b), g.2.2.2.1.trans h.2.2.2.1, g.2.2.2.2.1.trans h.2.2.2.2.1, g.2.2.2.2.2.1.trans h.2.2.2.2.2.1, g.2.2.2.2.2.2.trans h.2.2.2.2.2.2⟩
theorem PaF.ui {g : Nat} (v : Int32) (h : (504 ≤ g ∧ g ≤ 506) ∨ g = 509) : PaF n S (ui S g n v) := ⟨fun k a => SameO.ui _ a, fun _ _ => rfl, fun x a b => by rw [si_ui, if_neg (by omega)], rfl, rfl, rfl, rfl⟩
theorem PaF.ur (v : Option Nat) : PaF n S (ur S 508 n v) := ⟨fun k a => SameO.ur _ a, fun x a => by rw [sr_ur, if_neg (by omega)], fun _ _ _ => rfl, rfl, rfl, rfl, rfl⟩
theorem PaF.ul (v : Int64) : PaF n S (ul S 507 n v) := ⟨fun k _ => ⟨fun _ => rfl, fun _ => rfl, rfl, rfl, rfl, rfl⟩, fun _ _ => rfl, fun _ _ _ => rfl, rfl, rfl, rfl, rfl⟩
theorem PaF.fx (h : PaF n S T) (hn : 197 ≤ n) (x : FxF S) : FxF T := x.same (fun i hi => h.1 i (by omega))
theorem PaF.inp {f : Nat → Int32} {L : Nat} (h : PaF n S T) (hn : 197 ≤ n) (x : Inp S f L) : Inp T f L := ⟨x.1, ((h.1 20 (by omega)).1 1).trans x.2.1, fun i hi => by rw [h.2.2.2.1]; exact x.2.2 i hi⟩
end Pa
/-- the class's parser has read the token at s -/
def TokC (f : Nat → Int32) (L : Nat) (S : St) (n s : Nat) : Prop := s ≤ L ∧ enK f L s ≤ L ∧ si S 505 n = nI s ∧ si S 504 n = nI (enK f L s) ∧ si S 506 n = nI (kdK f L s) ∧
  (kdK f L s = 1 → sl S 507 n = wEnc (fun k => byK f (s + k)) (enK f L s - s) ∧ sr S 508 n = kwK (wEnc (fun k => byK f (s + k)) (enK f L s - s)) 15) ∧ (¬ kdK f L s = 1 → sr S 508 n = none) ∧ (kdK f L s = 2 → si S 509 n = ncK f s (enK f L s - s)) ∧ (kdK f L s = 3 → si S 509 n = byK f s)
section Nx
variable {F : Nat} {S : St} {f : Nat → Int32} {L n : Nat}
theorem in8 (hx : FxF S) (hi : Inp S f L) {k : Nat} (hk : k < L) : f_X0_byteAt F S 20 (nI k) = some (byK f k, S) := inB hx hi hk
theorem e_isBl (F : Nat) (S : St) (b : Int32) : f_X6_isBlank F S b = some (bI (blB b), S) := by
  unfold f_X6_isBlank
  by_cases h1 : b = 32
  · rw [if_pos h1, bI_t (Or.inl h1)]
  · rw [if_neg h1]
    by_cases h2 : b = 10
    · rw [if_neg (fun z => z h2), bI_t (Or.inr h2)]
    · rw [if_pos h2, bI_f (fun z => by rcases z with z | z; exact h1 z; exact h2 z)]
theorem e_isDig (F : Nat) (S : St) (b : Int32) : f_X10_isDigit F S b = some (bI (digB b), S) := by
  unfold f_X10_isDigit
  by_cases h1 : b < 48
  · rw [if_pos h1, bI_f (fun z => (le_nlt.mp z.1) h1)]
  · rw [if_neg h1]
    by_cases h2 : 57 < b
    · rw [if_pos h2, bI_f (fun z => (le_nlt.mp z.2) h2)]
    · rw [if_neg h2, bI_t ⟨le_nlt.mpr h1, le_nlt.mpr h2⟩]
theorem e_skip (hn : 197 ≤ n) : ∀ d p fu S, p + d = L → d < fu → FxF S → Inp S f L → sr S 500 n = some 20 → si S 504 n = nI p → ∃ T, f_X6_nextToken_L0 F fu S n = f_X6_nextToken_L44 F T n ∧ PaF n S T ∧ si T 504 n = nI (nbK f L p) := by
  intro d
  induction d with
  | zero =>
    intro p fu S hp hfu hx hi h5 h4
    obtain ⟨fu, rfl⟩ : ∃ f', fu = f' + 1 := ⟨fu - 1, by omega⟩
    have hL := hi.1
    have e : nbK f L p = p := by unfold nbK; rw [show L - p = 0 by omega]; rfl
    refine ⟨S, ?_, PaF.rf, by rw [e]; exact h4⟩
    unfold f_X6_nextToken_L0
    rw [h5, ob_some, hi.2.1, h4, if_pos (nI_le (by omega) (by omega))]
  | succ d ih =>
    intro p fu S hp hfu hx hi h5 h4
    obtain ⟨fu, rfl⟩ : ∃ f', fu = f' + 1 := ⟨fu - 1, by omega⟩
    have hL := hi.1
    have e : nbK f L p = pif (¬ blB (byK f p)) p (nbK f L (p + 1)) := by
      unfold nbK
      rw [show L - p = (L - (p + 1)) + 1 by omega, fnd_s]
    unfold f_X6_nextToken_L0
    rw [h5, ob_some, hi.2.1, h4, if_neg (nI_ge (by omega) (by omega)), ob_some, in8 hx hi (by omega), ob_some]
    simp only [lt_eq]
    rw [e_isBl, ob_some]
    simp only [lt_eq, eq_bI]
    by_cases z : blB (byK f p)
    · rw [if_pos z, h4, nI_1]
      have fr : PaF n S (ui S 504 n (nI (p + 1))) := PaF.ui _ (by omega)
      obtain ⟨T, t1, t2, t3⟩ := ih (p + 1) fu (ui S 504 n (nI (p + 1))) (by omega) (by omega) (fr.fx hn hx) (fr.inp hn hi) h5 (by rw [si_ui, if_pos ⟨rfl, rfl⟩])
      exact ⟨T, t1, fr.tr t2, by rw [e, pif_f (fun y => y z)]; exact t3⟩
    · rw [if_neg z]
      exact ⟨S, rfl, PaF.rf, by rw [e, pif_t z]; exact h4⟩
/-- the keyword of the word that was read -/
theorem e_kw {w : Int64} : ∀ d i fu S, i + d = 15 → d < fu → sl S 507 n = w → sr S 508 n = kwK w i → ∃ T, f_X6_readWord_L80 F fu S n 15 (nI i) = some T ∧ PaF n S T ∧ sr T 508 n = kwK w 15 ∧ sl T 507 n = w ∧ si T = si S := by
  intro d
  induction d with
  | zero =>
    intro i fu S hi hfu h7 h8
    obtain ⟨fu, rfl⟩ : ∃ f', fu = f' + 1 := ⟨fu - 1, by omega⟩
    obtain rfl : i = 15 := by omega
    refine ⟨S, ?_, PaF.rf, h8, h7, rfl⟩
    unfold f_X6_readWord_L80
    rw [if_pos (show (15 : Int32) ≤ nI 15 by decide)]
  | succ d ih =>
    intro i fu S hi hfu h7 h8
    obtain ⟨fu, rfl⟩ : ∃ f', fu = f' + 1 := ⟨fu - 1, by omega⟩
    have st : kwK w (i + 1) = if lg_cmp (kwW.getD i 0) w = 0 then some i else kwK w i := by
      unfold kwK
      rw [runN_s, Nat.zero_add]
    unfold f_X6_readWord_L80 f_X6_readWord_L109
    rw [if_neg (show ¬ (15 : Int32) ≤ nI i from nI_ge (b := 15) (by omega) (by omega)), cki_nI (by omega) (by omega), nI_clamp (by omega), h7, lt_eq, lt_eq, nI_1]
    by_cases z : lg_cmp (kwW.getD i 0) w = 0
    · rw [if_neg (fun y => y z)]
      obtain ⟨T, t1, t2, t3, t4, t5⟩ := ih (i + 1) fu (ur S 508 n (some i)) (by omega) (by omega) h7 (by rw [sr_ur, if_pos ⟨rfl, rfl⟩, st, if_pos z])
      exact ⟨T, t1, (PaF.ur _).tr t2, t3, t4, t5⟩
    · rw [if_pos z]
      obtain ⟨T, t1, t2, t3, t4, t5⟩ := ih (i + 1) fu S (by omega) (by omega) h7 (by rw [st, if_neg z]; exact h8)
      exact ⟨T, t1, t2, t3, t4, t5⟩
/-- a word is read -/
theorem e_rdWord (hn : 197 ≤ n) {s : Nat} (hF : 10000 ≤ F) : ∀ d p fu S, p + d = L → d < fu → s ≤ p → FxF S → Inp S f L → sr S 500 n = some 20 → si S 504 n = nI p → sl S 507 n = wEnc (fun k => byK f (s + k)) (p - s) → sr S 508 n = none → (∀ x, s ≤ x → x < p → letB (byK f x)) →
    ∃ T, f_X6_readWord_L5 F fu S n = some T ∧ PaF n S T ∧ si T 504 n = nI (weK f L p) ∧ sl T 507 n = wEnc (fun k => byK f (s + k)) (weK f L p - s) ∧ sr T 508 n = kwK (wEnc (fun k => byK f (s + k)) (weK f L p - s)) 15 ∧ (∀ g, ¬ g = 504 → si T g n = si S g n) := by
  have kw : ∀ S : St, sr S 508 n = none → ∃ T, f_X6_readWord_L71 F S n = some T ∧ PaF n S T ∧ sr T 508 n = kwK (sl S 507 n) 15 ∧ sl T 507 n = sl S 507 n ∧ si T = si S := fun S h8 => by
    unfold f_X6_readWord_L71
    exact e_kw (w := sl S 507 n) 15 0 F S (by omega) (by omega) rfl h8
  intro d
  induction d with
  | zero =>
    intro p fu S hp hfu hsp hx hi h5 h4 h7 h8 hl
    obtain ⟨fu, rfl⟩ : ∃ f', fu = f' + 1 := ⟨fu - 1, by omega⟩
    have hL := hi.1
    have e : weK f L p = p := by unfold weK; rw [show L - p = 0 by omega]; rfl
    obtain ⟨T, t1, t2, t3, t4, t5⟩ := kw S h8
    rw [h7] at t3 t4
    rw [e]
    refine ⟨T, ?_, t2, by rw [t5]; exact h4, t4, t3, fun g _ => by rw [t5]⟩
    unfold f_X6_readWord_L5
    rw [h5, ob_some, hi.2.1, h4, if_pos (nI_le (by omega) (by omega))]
    exact t1
  | succ d ih =>
    intro p fu S hp hfu hsp hx hi h5 h4 h7 h8 hl
    obtain ⟨fu, rfl⟩ : ∃ f', fu = f' + 1 := ⟨fu - 1, by omega⟩
    have hL := hi.1
    have e : weK f L p = pif (¬ letB (byK f p)) p (weK f L (p + 1)) := by
      unfold weK
      rw [show L - p = (L - (p + 1)) + 1 by omega, fnd_s]
    unfold f_X6_readWord_L5
    rw [h5, ob_some, hi.2.1, h4, if_neg (nI_ge (by omega) (by omega)), ob_some, in8 hx hi (by omega), ob_some]
    simp only [lt_eq]
    rw [e_isLet, ob_some]
    simp only [lt_eq, eq_bI]
    by_cases z : letB (byK f p)
    · rw [if_pos (show 97 ≤ byK f p ∧ byK f p ≤ 122 from z), h5, ob_some, h4, in8 hx hi (by omega), ob_some]
      simp only [lt_eq]
      have wl := e_withLetter F S (f := fun k => byK f (s + k)) (c := p - s) (fun k hk => by
        by_cases y : k = p - s
        · rw [y]; show letB (byK f (s + (p - s))); rw [show s + (p - s) = p by omega]; exact z
        · exact hl (s + k) (by omega) (by omega))
      rw [show s + (p - s) = p by omega] at wl
      rw [h7, wl, ob_some]
      simp only [lt_eq]
      obtain ⟨S1, hS1⟩ : ∃ S1, S1 = ui (ul S 507 n (wEnc (fun k => byK f (s + k)) (p - s + 1))) 504 n (nI (p + 1)) := ⟨_, rfl⟩
      have fr : PaF n S S1 := by rw [hS1]; exact (PaF.ul _).tr (PaF.ui _ (by omega))
      have m4 : si (ul S 507 n (wEnc (fun k => byK f (s + k)) (p - s + 1))) 504 n = nI p := h4
      rw [m4, nI_1, ← hS1]
      obtain ⟨T, t1, t2, t3, t4, t5, t6⟩ := ih (p + 1) fu S1 (by omega) (by omega) (by omega) (fr.fx hn hx) (fr.inp hn hi) (by rw [hS1]; exact h5) (by rw [hS1, si_ui, if_pos ⟨rfl, rfl⟩]) (by
        rw [hS1]
        show sl (ul S 507 n _) 507 n = _
        rw [sl_ul, if_pos ⟨rfl, rfl⟩, show p + 1 - s = p - s + 1 by omega]) (by rw [hS1]; exact h8) (fun x a b => by
        by_cases y : x = p
        · rw [y]; exact z
        · exact hl x a (by omega))
      rw [e, pif_f (fun y => y z)]
      exact ⟨T, t1, fr.tr t2, t3, t4, t5, fun g hg => (t6 g hg).trans (by rw [hS1, si_ui, if_neg (fun y => hg y.1)]; rfl)⟩
    · rw [if_neg (show ¬ (97 ≤ byK f p ∧ byK f p ≤ 122) from z)]
      obtain ⟨T, t1, t2, t3, t4, t5⟩ := kw S h8
      rw [h7] at t3 t4
      rw [e, pif_t z]
      exact ⟨T, t1, t2, by rw [t5]; exact h4, t4, t3, fun g _ => by rw [t5]⟩
/-- a number is read -/
theorem e_rdNum (hn : 197 ≤ n) {s : Nat} (hF : 10000 ≤ F) : ∀ d p fu S, p + d = L → d < fu → s ≤ p → FxF S → Inp S f L → sr S 500 n = some 20 → si S 504 n = nI p → si S 509 n = ncK f s (p - s) →
    ∃ T, f_X6_readNumber_L5 F fu S n = some T ∧ PaF n S T ∧ si T 504 n = nI (deK f L p) ∧ si T 509 n = ncK f s (deK f L p - s) ∧ sr T = sr S ∧ (∀ g, ¬ g = 504 → ¬ g = 509 → si T g n = si S g n) := by
  intro d
  induction d with
  | zero =>
    intro p fu S hp hfu hsp hx hi h5 h4 h9
    obtain ⟨fu, rfl⟩ : ∃ f', fu = f' + 1 := ⟨fu - 1, by omega⟩
    have hL := hi.1
    have e : deK f L p = p := by unfold deK; rw [show L - p = 0 by omega]; rfl
    rw [e]
    refine ⟨S, ?_, PaF.rf, h4, h9, rfl, fun _ _ _ => rfl⟩
    unfold f_X6_readNumber_L5
    rw [h5, ob_some, hi.2.1, h4, if_pos (nI_le (by omega) (by omega))]
  | succ d ih =>
    intro p fu S hp hfu hsp hx hi h5 h4 h9
    obtain ⟨fu, rfl⟩ : ∃ f', fu = f' + 1 := ⟨fu - 1, by omega⟩
    have hL := hi.1
    have e : deK f L p = pif (¬ digB (byK f p)) p (deK f L (p + 1)) := by
      unfold deK
      rw [show L - p = (L - (p + 1)) + 1 by omega, fnd_s]
    have st : ncK f s (p + 1 - s) = if ncK f s (p - s) * 10 + (byK f p - 48) < 10000000 then ncK f s (p - s) * 10 + (byK f p - 48) else 10000000 := by
      unfold ncK
      rw [show p + 1 - s = (p - s) + 1 by omega, runN_s, Nat.zero_add, show s + (p - s) = p by omega]
    unfold f_X6_readNumber_L5
    rw [h5, ob_some, hi.2.1, h4, if_neg (nI_ge (by omega) (by omega)), ob_some, in8 hx hi (by omega), ob_some]
    simp only [lt_eq]
    rw [e_isDig, ob_some]
    simp only [lt_eq, eq_bI]
    by_cases z : digB (byK f p)
    · rw [if_pos z, h5, ob_some, h4, in8 hx hi (by omega), ob_some]
      simp only [lt_eq]
      rw [h9, ← st]
      obtain ⟨S1, hS1⟩ : ∃ S1, S1 = ui (ui S 509 n (ncK f s (p + 1 - s))) 504 n (nI (p + 1)) := ⟨_, rfl⟩
      have fr : PaF n S S1 := by rw [hS1]; exact (PaF.ui _ (by omega)).tr (PaF.ui _ (by omega))
      have m4 : si (ui S 509 n (ncK f s (p + 1 - s))) 504 n = nI p := by rw [si_ui, if_neg (by omega)]; exact h4
      rw [m4, nI_1, ← hS1]
      obtain ⟨T, t1, t2, t3, t4, t5, t6⟩ := ih (p + 1) fu S1 (by omega) (by omega) (by omega) (fr.fx hn hx) (fr.inp hn hi) (by rw [hS1]; exact h5) (by rw [hS1, si_ui, if_pos ⟨rfl, rfl⟩]) (by rw [hS1, si_ui, if_neg (by omega), si_ui, if_pos ⟨rfl, rfl⟩])
      rw [e, pif_f (fun y => y z)]
      exact ⟨T, t1, fr.tr t2, t3, t4, by rw [t5, hS1]; rfl, fun g a b => (t6 g a b).trans (by rw [hS1, si_ui, if_neg (fun y => a y.1), si_ui, if_neg (fun y => b y.1)])⟩
    · rw [if_neg z, e, pif_t z]
      exact ⟨S, rfl, PaF.rf, h4, h9, rfl, fun _ _ _ => rfl⟩
end Nx
