/-! numbers, and the model's tokens -/
def nuOk (f : Nat → Int32) (L s lo hi v : Nat) : Prop := isNu f L s v ∧ lo ≤ v ∧ v ≤ hi
/-- no error yet: the model -/
def GdM (f : Nat → Int32) (L s : Nat) (S : St) : Prop := FxF S ∧ InM S f L ∧ TokM f L S s ∧ si S 1013 197 = 0 ∧ sr S 1004 197 = some 199
section T2
variable {F : Nat} {S : St} {f : Nat → Int32} {L n s : Nat}
theorem kd_le : kdK f L s ≤ 3 := by
  by_cases z : L ≤ s
  · rw [(tk_0 z).1]; omega
  by_cases a : letB (byK f s)
  · rw [(tk_1 (by omega) a).1]; omega
  by_cases b : digB (byK f s)
  · rw [(tk_2 (by omega) a b).1]; omega
  · rw [(tk_3 (by omega) a b).1]; omega
theorem isNu_u {v w : Nat} (h : isNu f L s v) (g : isNu f L s w) : v = w := (nI_eq (by have := h.2.1; omega) (by have := g.2.1; omega)).mp (h.2.2.1.symm.trans g.2.2.1)
theorem e_takeNu (hx : FxF S) (hi : Inp S f L) (hn : 212 ≤ n) (h5 : sr S 500 n = some 20) (t : TokC f L S n s) {lo hh : Nat} (hh9 : hh ≤ 99999) (hF : 10000 ≤ F) : (∀ v, nuOk f L s lo hh v → ∃ T, f_X6_takeNumber F S n (nI lo) (nI hh) = some (nI v, T) ∧ PaF n S T ∧ TokC f L T n (nxK f L s)) ∧ ((∀ v, ¬ nuOk f L s lo hh v) → lo ≤ 99999 → f_X6_takeNumber F S n (nI lo) (nI hh) = some (-1, flC S n s (if kdK f L s = 2 then 2 else 1))) := by
  obtain ⟨t0, t1, t2, t3, t4, -, -, t7, -⟩ := id t
  have kb := kd_le (f := f) (L := L) (s := s)
  have k2 : nI (kdK f L s) = (2 : Int32) ↔ kdK f L s = 2 := nI_eq (b := 2) (by omega) (by omega)
  constructor
  · rintro v ⟨⟨h1, h2, h3, -⟩, h5', h6⟩
    obtain ⟨T, p1, p2, p3⟩ := e_nextT (F := F) hx hi hn h5 t hF
    refine ⟨T, ?_, p2, p3⟩
    unfold f_X6_takeNumber
    rw [t4, if_neg (fun y => y (k2.mpr h1)), t7 h1, h3, if_neg (nI_nlt (by omega) (by omega)), if_pos (nI_le (by omega) (by omega)), lt_eq, p1, ob_some]
  · intro no hlo
    have fl : f_X6_takeNumber_L24 F S n = some (-1, flC S n s (if kdK f L s = 2 then 2 else 1)) := by
      unfold f_X6_takeNumber_L24 f_X6_takeNumber_L38
      rw [t4]
      by_cases z : kdK f L s = 2
      · rw [if_neg (fun y => y (k2.mpr z)), if_pos z, e_fail t, ob_some]
        rfl
      · rw [if_pos (fun y => z (k2.mp y)), if_neg z, e_fail t, ob_some]
        rfl
    unfold f_X6_takeNumber
    rw [t4, fl]
    by_cases z : kdK f L s = 2
    rotate_left
    · rw [if_pos (fun y => z (k2.mp y))]
    rw [if_neg (fun y => y (k2.mpr z)), t7 z]
    rcases nu_cases (fun i h => (hi.2.2 i h).2) z with ⟨v, hv⟩ | ⟨-, w, w1, w2, w3, -⟩
    · rw [hv.2.2.1]
      have hv2 := hv.2.1
      by_cases a : v < lo
      · rw [if_pos (nI_lt a (by omega))]
      · rw [if_neg (nI_nlt (by omega) (by omega)), if_neg (nI_ge (by
          rcases Nat.lt_or_ge hh v with y | y
          · exact y
          · exact absurd ⟨hv, by omega, y⟩ (no v)) (by omega))]
    · rw [w3, if_neg (nI_nlt (by omega) (by omega)), if_neg (nI_ge (by omega) (by omega))]
/-- the model -/
theorem GdM.nx (g : GdM f L s S) {T : St} (h : Mf scM noA S T) (t : TokM f L T (nxK f L s)) : GdM f L (nxK f L s) T := ⟨h.fx g.1, g.2.1.fr h, t, by rw [h.2.1 1013 197 (fun z => by have := z.2; unfold scM at this; omega)]; exact g.2.2.2.1, by rw [h.1]; exact g.2.2.2.2⟩
theorem GdM.d9 (g : GdM f L s S) {T : St} (h : D9 S T) : GdM f L s T := ⟨h.fx g.1, ⟨g.2.1.1, (h.si _ _).trans g.2.1.2.1, fun k hk => by rw [h.2.2.1 201 (fun z => by unfold is199 at z; omega)]; exact g.2.1.2.2 k hk⟩, g.2.2.1.fr (fun x => h.si x 197), by rw [h.si]; exact g.2.2.2.1, by rw [h.1]; exact g.2.2.2.2⟩
theorem GdM.bad (g : GdM f L s S) {c : Int32} (hc : ¬ c = 0) : BdM f L s (flM S s c) := by
  refine ⟨g.1, ⟨g.2.1.1, ?_, g.2.1.2.2⟩, ?_, ?_, g.2.2.2.2⟩
  · unfold flM
    rw [si_ui, if_neg (by omega), si_ui, if_neg (by omega)]; exact g.2.1.2.1
  · obtain ⟨t0, t1, t2, t3, t4, t5, t6⟩ := g.2.2.1
    have e : ∀ x, 1009 ≤ x → x ≤ 1012 → si (flM S s c) x 197 = si S x 197 := fun x a b => by
      unfold flM
      rw [si_ui, if_neg (by omega), si_ui, if_neg (by omega)]
    refine ⟨t0, t1, ?_, ?_, ?_, ?_, ?_⟩ <;> rw [e _ (by omega) (by omega)] <;> assumption
  · unfold flM
    rw [si_ui, if_neg (by omega), si_ui, if_pos ⟨rfl, rfl⟩]; exact hc
theorem g_good (g : GdM f L s S) : f_X11_good F S 197 = some (1, S) := by
  unfold f_X11_good
  rw [if_neg (fun y => y g.2.2.2.1)]
theorem g_errs (g : GdM f L s S) (c : Int32) : f_X11_errs F S 197 c = some (flM S s c) := by
  unfold f_X11_errs flM
  rw [g_good g, ob_some]
  simp only [lt_eq]
  rw [if_pos (show ¬ (1 : Int32) = 0 by decide), si_ui, if_neg (by omega), g.2.2.1.2.2.1]
theorem g_goOn (g : GdM f L s S) (hF : 10000 ≤ F) : ∃ T, f_X11_goOn F S 197 = some T ∧ Mf scM noA S T ∧ GdM f L (nxK f L s) T := by
  obtain ⟨t0, t1, t2, t3, -⟩ := id g.2.2.1
  obtain ⟨T, p1, p2, p3⟩ := m_scan (F := F) g.1 g.2.1 t1 t3 hF
  refine ⟨T, ?_, p2, g.nx p2 p3⟩
  unfold f_X11_goOn
  rw [g_good g, ob_some]
  simp only [lt_eq]
  rw [if_neg (show ¬ (1 : Int32) = 0 by decide), p1, ob_some]
theorem g_isText (g : GdM f L s S) {j : Nat} (hj : j < 15) (hF : 1000 ≤ F) : f_X11_isText F S 197 j = some (pI (isTx f L s j), S) := by
  rw [m_isText g.1 g.2.1 g.2.2.1 hj hF, pI_c ⟨fun y => y.2, fun y => ⟨g.2.2.2.1, y⟩⟩]
theorem g_word (g : GdM f L s S) {j : Nat} (hj : j < 15) (hF : 10000 ≤ F) : (isTx f L s j → ∃ T, f_X11_word F S 197 j = some T ∧ Mf scM noA S T ∧ GdM f L (nxK f L s) T) ∧ (¬ isTx f L s j → f_X11_word F S 197 j = some (flM S s 1)) := by
  unfold f_X11_word f_X11_word_L13
  rw [g_isText g hj (by omega), ob_some]
  simp only [lt_eq]
  constructor
  · intro y
    obtain ⟨T, p1, p2, p3⟩ := g_goOn (F := F) g hF
    rw [pI_t y, if_pos (show ¬ (1 : Int32) = 0 by decide), p1, ob_some]
    exact ⟨T, rfl, p2, p3⟩
  · intro y
    rw [pI_f y, if_neg (fun z => z rfl), g_errs g, ob_some, b_goOn (g.bad (by decide)), ob_some]
theorem g_isSy (g : GdM f L s S) (c : Int32) : f_X11_isSymbol F S 197 c = some (pI (isSy f L s c), S) := by
  obtain ⟨-, -, -, -, t4, -, t6⟩ := id g.2.2.1
  have kb := kd_le (f := f) (L := L) (s := s)
  unfold f_X11_isSymbol
  rw [g_good g, ob_some]
  simp only [lt_eq]
  rw [if_neg (show ¬ (1 : Int32) = 0 by decide), t4]
  by_cases h : kdK f L s = 3
  · rw [if_neg (fun y => y (by rw [h]; rfl)), t6 h]
    by_cases z : byK f s = c
    · rw [if_neg (fun y => y z), pI_t ⟨h, z⟩]
    · rw [if_pos z, pI_f (fun y => z y.2)]
  · rw [if_pos (show ¬ nI (kdK f L s) = (3 : Int32) from fun y => h ((nI_eq (b := 3) (by omega) (by omega)).mp y)), pI_f (fun y => h y.1)]
theorem g_number (g : GdM f L s S) {lo hh : Nat} (hh9 : hh ≤ 99999) (hlo : lo ≤ 99999) (hF : 10000 ≤ F) : (∀ v, nuOk f L s lo hh v → ∃ T, f_X11_number F S 197 (nI lo) (nI hh) = some (nI v, T) ∧ Mf scM noA S T ∧ GdM f L (nxK f L s) T) ∧ ((∀ v, ¬ nuOk f L s lo hh v) → f_X11_number F S 197 (nI lo) (nI hh) = some (nI lo, flM S s (if kdK f L s = 2 then 2 else 1))) := by
  obtain ⟨-, -, -, -, t4, t5, -⟩ := id g.2.2.1
  have kb := kd_le (f := f) (L := L) (s := s)
  have k2 : nI (kdK f L s) = (2 : Int32) ↔ kdK f L s = 2 := nI_eq (b := 2) (by omega) (by omega)
  have l20 : kdK f L s = 2 → f_X11_number F S 197 (nI lo) (nI hh) = if nI lo ≤ numK f s (enK f L s - s) ∧ numK f s (enK f L s - s) ≤ nI hh then f_X11_number_L62 F S 197 (numK f s (enK f L s - s)) else some (nI lo, flM S s 2) := fun z => by
    unfold f_X11_number f_X11_number_L20 f_X11_number_L47
    rw [g_good g, ob_some]
    simp only [lt_eq]
    rw [if_neg (show ¬ (1 : Int32) = 0 by decide), t4, if_pos (k2.mpr z), g_good g, ob_some]
    simp only [lt_eq]
    rw [if_neg (show ¬ (1 : Int32) = 0 by decide), t5 z, e_in, ob_some]
    simp only [lt_eq]
    by_cases a : nI lo ≤ numK f s (enK f L s - s) ∧ numK f s (enK f L s - s) ≤ nI hh
    · rw [bI_t a, if_pos (show ¬ (1 : Int32) = 0 by decide), if_pos a, g_good g, ob_some]
      simp only [lt_eq]
      rw [if_neg (show ¬ (1 : Int32) = 0 by decide), t5 z]
    · have b := g.bad (c := 2) (by decide)
      rw [bI_f a, if_neg (fun y => y rfl), if_neg a, g_errs g, ob_some, b_good b, ob_some]
      simp only [lt_eq]
      unfold f_X11_number_L62
      rw [if_pos True.intro, b_goOn b, ob_some]
  constructor
  · rintro v ⟨⟨h1, h2, -, h3⟩, h5', h6⟩
    obtain ⟨T, p1, p2, p3⟩ := g_goOn (F := F) g hF
    refine ⟨T, ?_, p2, p3⟩
    rw [l20 h1, h3, if_pos ⟨nI_le h5' (by omega), nI_le h6 (by omega)⟩]
    unfold f_X11_number_L62
    rw [p1, ob_some]
  · intro no
    by_cases z : kdK f L s = 2
    · rw [l20 z, if_pos z]
      rcases nu_cases (fun i h => (g.2.1.2.2 i h).2) z with ⟨v, hv⟩ | ⟨-, w, w1, w2, -, w4⟩
      · have hv2 := hv.2.1
        rw [hv.2.2.2, if_neg (fun y => no v ⟨hv, (nI_leI (by omega) (by omega)).mp y.1, (nI_leI (by omega) (by omega)).mp y.2⟩)]
      · rw [w4, if_neg (fun y => by have := (nI_leI (by omega) (by omega)).mp y.2; omega)]
    · have b := g.bad (c := 1) (by decide)
      unfold f_X11_number f_X11_number_L20 f_X11_number_L47 f_X11_number_L62
      rw [g_good g, ob_some]
      simp only [lt_eq]
      rw [if_neg (show ¬ (1 : Int32) = 0 by decide), t4, if_neg (fun y => z (k2.mp y)), g_errs g, ob_some, b_good b, ob_some]
      simp only [lt_eq]
      rw [if_pos True.intro, b_good b, ob_some]
      simp only [lt_eq]
      rw [if_pos True.intro, b_goOn b, ob_some, if_neg z]
end T2
