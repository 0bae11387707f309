/-! the model goes on after an error: nothing but the draft changes -/
def noF (_ : Nat) : Prop := False
def is199 (i : Nat) : Prop := i = 199
abbrev D9 (S T : St) : Prop := Mf noF is199 S T
/-- an error lies there, and a token -/
def BdM (f : Nat → Int32) (L s : Nat) (S : St) : Prop := FxF S ∧ InM S f L ∧ TokM f L S s ∧ ¬ si S 1013 197 = 0 ∧ sr S 1004 197 = some 199
section Bd
variable {F : Nat} {S T : St} {f : Nat → Int32} {L s : Nat}
theorem D9.si (h : D9 S T) (g i : Nat) : si T g i = si S g i := h.2.1 g i (fun z => z.2)
theorem TokM.fr (t : TokM f L S s) (h : ∀ g, si T g 197 = si S g 197) : TokM f L T s := by
  unfold TokM at t ⊢
  rw [h, h, h, h]
  exact t
theorem BdM.fr (b : BdM f L s S) (h : D9 S T) : BdM f L s T := ⟨h.fx b.1, ⟨b.2.1.1, (h.si _ _).trans b.2.1.2.1, fun k hk => by rw [h.2.2.1 201 (fun z => by unfold is199 at z; omega)]; exact b.2.1.2.2 k hk⟩, b.2.2.1.fr (fun g => h.si g 197), by rw [h.si]; exact b.2.2.2.1, by rw [h.1]; exact b.2.2.2.2⟩
theorem D9.uai {k : Nat} (v : Int32) : D9 S (uai S 199 k v) := Mf.uai v rfl
theorem b_good (b : BdM f L s S) : f_X11_good F S 197 = some (0, S) := by
  unfold f_X11_good
  rw [if_pos b.2.2.2.1]
theorem b_errs (b : BdM f L s S) (c : Int32) : f_X11_errs F S 197 c = some S := by
  unfold f_X11_errs
  rw [b_good b, ob_some]
  simp only [lt_eq]
  rw [if_neg (fun y => y True.intro)]
theorem b_goOn (b : BdM f L s S) : f_X11_goOn F S 197 = some S := by
  unfold f_X11_goOn
  rw [b_good b, ob_some]
  simp only [lt_eq]
  rw [if_pos True.intro]
theorem b_isText (b : BdM f L s S) {j : Nat} (hj : j < 15) (hF : 1000 ≤ F) : f_X11_isText F S 197 j = some (0, S) := by
  rw [m_isText b.1 b.2.1 b.2.2.1 hj hF, pI_f (fun y => b.2.2.2.1 y.1)]
theorem b_isSymbol (b : BdM f L s S) (c : Int32) : f_X11_isSymbol F S 197 c = some (0, S) := by
  unfold f_X11_isSymbol
  rw [b_good b, ob_some]
  simp only [lt_eq]
  rw [if_pos True.intro]
theorem b_word (b : BdM f L s S) {j : Nat} (hj : j < 15) (hF : 1000 ≤ F) : f_X11_word F S 197 j = some S := by
  unfold f_X11_word f_X11_word_L13
  rw [b_isText b hj hF, ob_some]
  simp only [lt_eq]
  rw [if_neg (fun y => y True.intro), b_errs b, ob_some, b_goOn b, ob_some]
theorem b_number (b : BdM f L s S) (lo hi : Int32) : f_X11_number F S 197 lo hi = some (lo, S) := by
  unfold f_X11_number f_X11_number_L20 f_X11_number_L47 f_X11_number_L62
  rw [b_good b, ob_some]
  simp only [lt_eq]
  rw [if_pos True.intro, b_good b, ob_some]
  simp only [lt_eq]
  rw [if_pos True.intro, b_good b, ob_some]
  simp only [lt_eq]
  rw [if_pos True.intro, b_goOn b, ob_some]
theorem b_numberAfter (b : BdM f L s S) {j : Nat} (hj : j < 15) (lo hi : Int32) (hF : 1000 ≤ F) : f_X11_numberAfter F S 197 j lo hi = some (lo, S) := by
  unfold f_X11_numberAfter
  rw [b_word b hj hF, ob_some, b_number b, ob_some]
  rfl
/-- a letter of the token -/
theorem t_letter (hx : FxF S) (i : InM S f L) (t : TokM f L S s) {k : Nat} (hk : k < 10) : f_X11_letter F S 197 (nI k) = some (if enK f L s - s ≤ k then 0 else f (s + k), S) := by
  obtain ⟨t0, t1, t2, t3, -⟩ := t
  have hL := i.1
  have en := enK_le (f := f) t0
  unfold f_X11_letter
  rw [t3, t2, nI_sub (by omega)]
  by_cases z : enK f L s - s ≤ k
  · rw [if_pos (nI_le z (by omega)), if_pos z]
  · rw [if_neg (nI_ge (by omega) (by omega)), if_neg z, hx.r1006_197, ob_some, nI_add, hx.l201, cki_nI (by omega) (by omega), nI_clamp (by omega), (i.2.2 _ (by omega)).1]
theorem b_check (b : BdM f L s S) : f_X11_checkName F S 197 = some S := by
  unfold f_X11_checkName
  rw [b_good b, ob_some]
  simp only [lt_eq]
  rw [if_pos True.intro]
/-- letters of the token are laid down in the draft -/
theorem t_letters {o c : Nat} (ho : o + c ≤ 6391) (hc : c ≤ 10) (g : Nat → St → Nat → Int32 → Int32 → Option St) (G : St → Option St)
    (h0 : ∀ fu S k, k < c → g (fu + 1) S 197 (nI o) (nI k) = Option.bind (sr S 1004 197) fun j6 => Option.bind (f_X11_letter F S 197 (nI k)) fun z7 => lt z7.1 fun r9 => lt z7.2 fun S8 => cki (nI o + nI k) (ln S8 j6) <| lt (uai S8 j6 (Int32.toNatClampNeg (nI o + nI k)) r9) fun S12 => lt (nI k + 1) fun x13 => g fu S12 197 (nI o) x13)
    (h1 : ∀ fu S, g (fu + 1) S 197 (nI o) (nI c) = G S) : ∀ d k fu S, k + d = c → d < fu → FxF S → InM S f L → TokM f L S s → sr S 1004 197 = some 199 →
    ∃ T, g fu S 197 (nI o) (nI k) = G T ∧ D9 S T ∧ (∀ x, k ≤ x → x < c → ai T 199 (o + x) = if enK f L s - s ≤ x then 0 else f (s + x)) ∧ ∀ x, (x < o + k ∨ o + c ≤ x) → ai T 199 x = ai S 199 x := by
  intro d
  induction d with
  | zero =>
    intro k fu S hk hfu hx i t h4
    obtain ⟨fu, rfl⟩ : ∃ f', fu = f' + 1 := ⟨fu - 1, by omega⟩
    obtain rfl : k = c := by omega
    exact ⟨S, h1 fu S, Mf.rf S, fun x a b => by omega, fun x _ => rfl⟩
  | succ d ih =>
    intro k fu S hk hfu hx i t h4
    obtain ⟨fu, rfl⟩ : ∃ f', fu = f' + 1 := ⟨fu - 1, by omega⟩
    obtain ⟨S1, hS1⟩ : ∃ S1, S1 = uai S 199 (o + k) (if enK f L s - s ≤ k then 0 else f (s + k)) := ⟨_, rfl⟩
    have fr : D9 S S1 := by rw [hS1]; exact D9.uai _
    obtain ⟨T, t1, t2, t3, t4⟩ := ih (k + 1) fu S1 (by omega) (by omega) (fr.fx hx) ⟨i.1, (fr.si _ _).trans i.2.1, fun k hk => by rw [fr.2.2.1 201 (fun z => by unfold is199 at z; omega)]; exact i.2.2 k hk⟩ (t.fr (fun g => fr.si g 197)) (by rw [fr.1]; exact h4)
    refine ⟨T, ?_, fr.tr t2, fun x a b => ?_, fun x a => ?_⟩
    · rw [h0 fu S k (by omega), h4, ob_some, t_letter hx i t (by omega), ob_some]
      simp only [lt_eq]
      rw [nI_add, hx.l199, cki_nI (by omega) (by omega), nI_clamp (by omega), nI_1, ← hS1]
      exact t1
    · by_cases y : x = k
      · rw [y, t4 _ (by omega), hS1, ai_uaiE, upd_e]
      · exact t3 x (by omega) b
    · rw [t4 x (by omega), hS1, ai_uaiE, upd_n (by omega)]
theorem t_name {o : Nat} (ho : o + 6 ≤ 6391) (hx : FxF S) (i : InM S f L) (t : TokM f L S s) (h4 : sr S 1004 197 = some 199) (hF : 1000 ≤ F) : ∃ T, f_X11_newName_L34 F S 197 (nI o) = Option.bind (f_X11_goOn F T 197) (fun S3 => some S3) ∧ D9 S T ∧ (∀ x, x < 6 → ai T 199 (o + x) = if enK f L s - s ≤ x then 0 else f (s + x)) ∧ ∀ x, (x < o ∨ o + 6 ≤ x) → ai T 199 x = ai S 199 x := by
  obtain ⟨T, t1, t2, t3, t4⟩ := t_letters (F := F) (s := s) (c := 6) ho (by omega) (fun fu S a b c => f_X11_newName_L37 F fu S a b c) (fun S => Option.bind (f_X11_goOn F S 197) (fun S3 => some S3)) (fun fu S k hk => by
    show f_X11_newName_L37 F (fu + 1) S 197 (nI o) (nI k) = _
    conv => lhs; unfold f_X11_newName_L37
    rw [if_neg (show ¬ (6 : Int32) ≤ nI k from nI_ge (b := 6) hk (by omega))]) (fun fu S => by
    show f_X11_newName_L37 F (fu + 1) S 197 (nI o) (nI 6) = _
    unfold f_X11_newName_L37
    rw [if_pos (show (6 : Int32) ≤ nI 6 by decide)]) 6 0 F S (by omega) (by omega) hx i t h4
  exact ⟨T, by unfold f_X11_newName_L34; exact t1, t2, fun x hx => t3 x (by omega) hx, fun x hx => t4 x (by omega)⟩
theorem b_newName (b : BdM f L s S) {o : Nat} (ho : o + 6 ≤ 6391) (p q : Int32) (hF : 1000 ≤ F) : ∃ T, f_X11_newName F S 197 p q (nI o) = some T ∧ D9 S T ∧ ∀ x, (x < o ∨ o + 6 ≤ x) → ai T 199 x = ai S 199 x := by
  obtain ⟨T, t1, t2, -, t3⟩ := t_name (F := F) ho b.1 b.2.1 b.2.2.1 b.2.2.2.2 hF
  refine ⟨T, ?_, t2, t3⟩
  unfold f_X11_newName
  rw [b_check b, ob_some, b_good b, ob_some]
  simp only [lt_eq]
  rw [if_pos True.intro, t1, b_goOn (b.fr t2), ob_some]
theorem b_oldName (b : BdM f L s S) (p : Int32) : f_X11_oldName F S 197 p = some (0, S) := by
  unfold f_X11_oldName f_X11_oldName_L20 f_X11_oldName_L31
  rw [b_check b, ob_some, b_good b, ob_some]
  simp only [lt_eq]
  rw [if_pos True.intro, if_pos (show ¬ (0 : Int32) = -1 by decide), b_goOn b, ob_some]
theorem b_member (b : BdM f L s S) : f_X11_member F S 197 = some (0, S) := by
  unfold f_X11_member f_X11_member_L20 f_X11_member_L37 f_X11_member_L53 f_X11_member_L90
  rw [b_check b, ob_some, b_good b, ob_some]
  simp only [lt_eq]
  rw [if_pos True.intro, b_good b, ob_some]
  simp only [lt_eq]
  rw [if_pos True.intro, if_pos (show ¬ (0 : Int32) = -1 by decide), b_good b, ob_some]
  simp only [lt_eq]
  rw [if_neg (fun y => y True.intro), b_goOn b, ob_some]
theorem b_begins (b : BdM f L s S) (p : Int32) : f_X11_begins F S 197 p = some (0, S) := by
  unfold f_X11_begins f_X11_begins_L9
  rw [b_errs b, ob_some, b_goOn b, ob_some, b_good b, ob_some]
  simp only [lt_eq]
  rw [ck_t (Or.inl True.intro)]
  by_cases z : p = 0
  · rw [if_neg (fun y => y z)]
  · rw [if_pos z]
end Bd
