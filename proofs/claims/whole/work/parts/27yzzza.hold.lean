/-! a hold's statement: the pieces -/
section Hp
variable {F : Nat} {f D : Nat → Int32} {L n r s : Nat} {C0 M0 C M C' M' : St}
def ho5 (F : Nat) (S : St) (o : Int32) : Option St := Option.bind (sr S 1004 197) fun j84 =>
  Option.bind (sr S 1004 197) fun j85 =>
  cki (o + 1) (ln S j85) <|
  Option.bind (f_X11_numberAfter F S 197 13 (ai S j85 (Int32.toNatClampNeg (o + 1))) ((9999 : Int32))) fun z87 => lt z87.1 fun r89 => lt z87.2 fun S88 =>
  cki (o + 2) (ln S88 j84) <|
  lt (uai S88 j84 (Int32.toNatClampNeg (o + 2)) r89) fun S92 =>
  f_X11_parseHold_L152 F S92 197 o
def ho4 (F : Nat) (S : St) (o : Int32) : Option St := Option.bind (f_X11_goOn F S 197) fun S74 =>
  Option.bind (sr S74 1004 197) fun j77 =>
  Option.bind (f_X11_number F S74 197 ((0 : Int32)) ((9999 : Int32))) fun z78 => lt z78.1 fun r80 => lt z78.2 fun S79 =>
  cki (o + 1) (ln S79 j77) <|
  lt (uai S79 j77 (Int32.toNatClampNeg (o + 1)) r80) fun S83 => ho5 F S83 o
def ho3 (F : Nat) (S : St) (o : Int32) : Option St := Option.bind (sr S 1004 197) fun j62 =>
  cki (o + 1) (ln S j62) <|
  lt (uai S j62 (Int32.toNatClampNeg (o + 1)) 0) fun S64 =>
  Option.bind (sr S64 1004 197) fun j65 =>
  cki (o + 2) (ln S64 j65) <|
  lt (uai S64 j65 (Int32.toNatClampNeg (o + 2)) 20000) fun S67 =>
  Option.bind (f_X11_isText F S67 197 12) fun z68 => lt z68.1 fun r70 => lt z68.2 fun S69 =>
  if r70 = 0 then
  (f_X11_parseHold_L152 F S69 197 o)
  else
  (ho4 F S69 o)
def ho2 (F : Nat) (S : St) (o : Int32) : Option St := Option.bind (sr S 1004 197) fun j55 =>
  Option.bind (f_X11_oldName F S 197 ((1 : Int32))) fun z56 => lt z56.1 fun r58 => lt z56.2 fun S57 =>
  cki (o + 0) (ln S57 j55) <|
  lt (uai S57 j55 (Int32.toNatClampNeg (o + 0)) r58) fun S61 => ho3 F S61 o
theorem ho_eq (S : St) (s0 : Int32) : f_X11_parseHold_L27 F S 197 s0 197 = Option.bind (f_X11_begins F S 197 s0) fun z39 => lt z39.1 fun r41 => lt z39.2 fun S40 =>
  if ¬ r41 = 0 then
  (Option.bind (sr S40 1004 197) fun j44 =>
  cki 6 (ln S40 j44) <|
  lt (205 + (21 * (ai S40 j44 (Int32.toNatClampNeg 6)))) fun x46 =>
  Option.bind (f_X11_newName F S40 197 ((3 : Int32)) ((3 : Int32)) (x46 + 15)) fun S48 =>
  Option.bind (f_X11_word F S48 197 8) fun S52 => ho2 F S52 x46)
  else
  (some S40) := by
  unfold f_X11_parseHold_L27
  rfl
/-- after an error -/
theorem b_175 (b : BdM f L s M) {o : Nat} (ho : o + 15 ≤ 6391) : ∃ T, f_X11_parseHold_L175 F M 197 (nI o) = some T ∧ D9 M T := by
  have d1 : D9 M (uai M 199 (o + 3) 1) := D9.uai _
  have b1 := b.fr d1
  refine ⟨_, ?_, d1.tr (D9.uai (k := 6) (ai (uai M 199 (o + 3) 1) 199 6 + 1))⟩
  unfold f_X11_parseHold_L175
  rw [b.2.2.2.2, ob_some, b.1.l199, aL3, cki_nI (by omega) (by omega), nI_clamp (by omega)]
  simp only [lt_eq]
  rw [b1.2.2.2.2, ob_some, b1.1.l199, cL6 (by omega) (by omega), cL6 (by omega) (by omega), kL6]
theorem b_152 (b : BdM f L s M) {o : Nat} (ho : o + 15 ≤ 6391) (hF : 1000 ≤ F) : ∃ T, f_X11_parseHold_L152 F M 197 (nI o) = some T ∧ D9 M T := by
  have d1 : D9 M (uai M 199 (o + 4) 0) := D9.uai _
  have b1 := b.fr d1
  obtain ⟨T, t1, t2⟩ := b_175 (F := F) b1 ho
  refine ⟨T, ?_, d1.tr t2⟩
  unfold f_X11_parseHold_L152
  rw [b.2.2.2.2, ob_some, b.1.l199, aL4, cki_nI (by omega) (by omega), nI_clamp (by omega)]
  simp only [lt_eq]
  rw [b_isText b1 (by omega) hF, ob_some]
  simp only [lt_eq]
  rw [if_pos True.intro, t1]
theorem b_ho5 (b : BdM f L s M) {o : Nat} (ho : o + 15 ≤ 6391) (hF : 1000 ≤ F) : ∃ T, ho5 F M (nI o) = some T ∧ D9 M T := by
  have d1 : D9 M (uai M 199 (o + 2) (ai M 199 (o + 1))) := D9.uai _
  obtain ⟨T, t1, t2⟩ := b_152 (F := F) (b.fr d1) ho hF
  refine ⟨T, ?_, d1.tr t2⟩
  unfold ho5
  rw [b.2.2.2.2, ob_some, ob_some, b.1.l199, nI_1, cki_nI (by omega) (by omega), nI_clamp (by omega), b_numberAfter b (by omega) _ _ hF, ob_some]
  simp only [lt_eq]
  rw [b.1.l199, aL2, cki_nI (by omega) (by omega), nI_clamp (by omega), t1]
theorem b_ho3 (b : BdM f L s M) {o : Nat} (ho : o + 15 ≤ 6391) (hF : 1000 ≤ F) : ∃ T, ho3 F M (nI o) = some T ∧ D9 M T := by
  have d1 : D9 M (uai M 199 (o + 1) 0) := D9.uai _
  have b1 := b.fr d1
  have d2 : D9 (uai M 199 (o + 1) 0) (uai (uai M 199 (o + 1) 0) 199 (o + 2) 20000) := D9.uai _
  have b2 := b1.fr d2
  obtain ⟨T, t1, t2⟩ := b_152 (F := F) b2 ho hF
  refine ⟨T, ?_, (d1.tr d2).tr t2⟩
  unfold ho3
  rw [b.2.2.2.2, ob_some, b.1.l199, nI_1, cki_nI (by omega) (by omega), nI_clamp (by omega)]
  simp only [lt_eq]
  rw [b1.2.2.2.2, ob_some, b1.1.l199, aL2, cki_nI (by omega) (by omega), nI_clamp (by omega), b_isText b2 (by omega) hF, ob_some]
  simp only [lt_eq]
  rw [if_pos True.intro, t1]
theorem b_ho2 (b : BdM f L s M) {o : Nat} (ho : o + 15 ≤ 6391) (hF : 1000 ≤ F) : ∃ T, ho2 F M (nI o) = some T ∧ D9 M T := by
  have d1 : D9 M (uai M 199 o 0) := D9.uai _
  obtain ⟨T, t1, t2⟩ := b_ho3 (F := F) (b.fr d1) ho hF
  refine ⟨T, ?_, d1.tr t2⟩
  unfold ho2
  rw [b.2.2.2.2, ob_some, b_oldName b, ob_some]
  simp only [lt_eq]
  rw [b.1.l199, Int32.add_zero, cki_nI (by omega) (by omega), nI_clamp (by omega), t1]
theorem b_hol (b : BdM f L s M) {o : Nat} (ho : o + 15 ≤ 6391) (hF : 1000 ≤ F) : ∃ T, (Option.bind (f_X11_word F M 197 8) fun S52 => ho2 F S52 (nI o)) = some T ∧ D9 M T := by
  rw [b_word b (by omega) hF, ob_some]
  exact b_ho2 b ho hF
/-- the letters of a hold's word -/
theorem t_word {o : Nat} (ho : o + 15 ≤ 6391) (hx : FxF M) (i : InM M f L) (t : TokM f L M s) (h4 : sr M 1004 197 = some 199) (hF : 1000 ≤ F) : ∃ T, f_X11_parseWord_L57 F F M 197 (nI o) 0 = Option.bind (f_X11_goOn F T 197) (fun S3 => some S3) ∧ D9 M T ∧ (∀ x, x < 10 → ai T 199 (o + 5 + x) = if enK f L s - s ≤ x then 0 else f (s + x)) ∧ ∀ x, (x < o + 5 ∨ o + 15 ≤ x) → ai T 199 x = ai M 199 x := by
  obtain ⟨T, t1, t2, t3, t4⟩ := t_letters (F := F) (s := s) (o := o + 5) (c := 10) (by omega) (by omega) (fun fu S a _ c => f_X11_parseWord_L57 F fu S a (nI o) c) (fun S => Option.bind (f_X11_goOn F S 197) (fun S3 => some S3)) (fun fu S k hk => by
    show f_X11_parseWord_L57 F (fu + 1) S 197 (nI o) (nI k) = _
    conv => lhs; unfold f_X11_parseWord_L57
    rw [if_neg (show ¬ (10 : Int32) ≤ nI k from nI_ge (b := 10) hk (by omega)), aL5]) (fun fu S => by
    show f_X11_parseWord_L57 F (fu + 1) S 197 (nI o) (nI 10) = _
    unfold f_X11_parseWord_L57
    rw [if_pos (show (10 : Int32) ≤ nI 10 by decide)]) 10 0 F M (by omega) (by omega) hx i t h4
  exact ⟨T, t1, t2, fun x hx => t3 x (by omega) hx, fun x hx => t4 x (by omega)⟩
theorem b_38 (b : BdM f L s M) {o : Nat} (ho : o + 15 ≤ 6391) (hF : 1000 ≤ F) : ∃ T, f_X11_parseWord_L38 F M 197 (nI o) = some T ∧ D9 M T := by
  have d1 : D9 M (uai M 199 (o + 4) (si M 1009 197 - si M 1010 197)) := D9.uai _
  have b1 := b.fr d1
  obtain ⟨T, t1, t2, -, -⟩ := t_word (F := F) ho b1.1 b1.2.1 b1.2.2.1 b1.2.2.2.2 hF
  refine ⟨T, ?_, d1.tr t2⟩
  unfold f_X11_parseWord_L38
  rw [b.2.2.2.2, ob_some, b.1.l199, aL4, cki_nI (by omega) (by omega), nI_clamp (by omega)]
  simp only [lt_eq]
  rw [t1, b_goOn (b1.fr t2), ob_some]
/-- a word of a hold: both sides -/
theorem s_hword {o : Nat} (ho : ∀ x, 4 ≤ x → x < 15 → bey D (o + x)) (g : Go f L n r C0 M0 D C M s) (hw : isTx f L s 14) (hF : 10000 ≤ F) :
    (∃ D' k w C1 C' M' s', s ≤ s' ∧ k ≤ 10 ∧ D' (o + 4) = nI k ∧ (∀ x, x < k → letB (D' (o + 5 + x))) ∧ w = wdN D' (o + 5) k ∧ ¬ lg_cmp w 0 = 0 ∧ (∀ x, (x < o + 4 ∨ o + 15 ≤ x) → D' x = D x) ∧ f_X6_nextToken F C n = some C1 ∧ f_X6_takeWord F C1 n = some (w, C') ∧ f_X11_parseWord F M 197 (nI o) = some M' ∧ Go f L n r C0 M0 D' C' M' s') ∨
    (∃ C1 C' M' s', f_X6_nextToken F C n = some C1 ∧ f_X6_takeWord F C1 n = some (0, C') ∧ f_X11_parseWord F M 197 (nI o) = some M' ∧ BdM f L s' M' ∧ Fl f L n C0 M0 C' M') := by
  obtain ⟨C1, M1, n1, n2, g1⟩ := s_next (F := F) g hF
  have s1 := (nx_le (f := f) g.le).1
  generalize nxK f L s = t1 at *
  have h8 : ∀ i, i < L → (f i).toInt8.toInt32 = f i := fun i h => (g1.2.1.2.1.2.2 i h).2
  have hL := g1.2.1.2.1.1
  have ho6 : o + 15 ≤ 6391 := by have := ho 14 (by omega) (by omega); unfold bey at this; omega
  have ho4 : 11 ≤ o + 4 := by have := ho 4 (by omega) (by omega); unfold bey at this; omega
  have kb := kd_le (f := f) (L := L) (s := t1)
  obtain ⟨t0, tE, c2, c3, c4, c5, -⟩ := id g1.tk
  obtain ⟨-, -, m2, m3, m4, -⟩ := id g1.gd.2.2.1
  have en := enK_le (f := f) t0
  have k1 : nI (kdK f L t1) = (1 : Int32) ↔ kdK f L t1 = 1 := nI_eq (b := 1) (by omega) (by omega)
  have fC : f_X6_takeWord_L19 F C1 n = some (0, flC C1 n t1 1) := by
    unfold f_X6_takeWord_L19
    rw [e_fail g1.tk, ob_some]
    rfl
  have hM : f_X11_parseWord F M 197 (nI o) = if ¬ kdK f L t1 = 1 then f_X11_parseWord_L33 F M1 197 (nI o) else if enK f L t1 - t1 ≤ 10 then f_X11_parseWord_L38 F M1 197 (nI o) else f_X11_parseWord_L33 F M1 197 (nI o) := by
    unfold f_X11_parseWord
    rw [n2, ob_some, g_good g1.gd, ob_some]
    simp only [lt_eq]
    rw [if_neg (show ¬ (1 : Int32) = 0 by decide), m4, m3, m2, nI_sub (by omega)]
    by_cases hk : kdK f L t1 = 1
    · rw [if_neg (show ¬ ¬ nI (kdK f L t1) = (1 : Int32) from fun y => y (k1.mpr hk)), if_neg (show ¬ ¬ kdK f L t1 = 1 from fun y => y hk)]
      by_cases h10 : enK f L t1 - t1 ≤ 10
      · rw [if_pos (show nI (enK f L t1 - t1) ≤ (10 : Int32) from nI_le (b := 10) h10 (by omega)), if_pos h10]
      · rw [if_neg (show ¬ nI (enK f L t1 - t1) ≤ (10 : Int32) from nI_ge (a := 10) (by omega) (by omega)), if_neg h10]
    · rw [if_pos (show ¬ nI (kdK f L t1) = (1 : Int32) from fun y => hk (k1.mp y)), if_pos (show ¬ kdK f L t1 = 1 from hk)]
  have hC : f_X6_takeWord F C1 n = if ¬ kdK f L t1 = 1 then some (0, flC C1 n t1 1) else if ¬ lg_cmp (sl C1 507 n) (-1) = 0 then Option.bind (f_X6_nextToken F C1 n) (fun S13 => some (sl C1 507 n, S13)) else some (0, flC C1 n t1 1) := by
    unfold f_X6_takeWord
    rw [fC, c4]
    by_cases hk : kdK f L t1 = 1
    · rw [if_neg (show ¬ ¬ nI (kdK f L t1) = (1 : Int32) from fun y => y (k1.mpr hk)), if_neg (show ¬ ¬ kdK f L t1 = 1 from fun y => y hk)]
      rfl
    · rw [if_pos (show ¬ nI (kdK f L t1) = (1 : Int32) from fun y => hk (k1.mp y)), if_pos (show ¬ kdK f L t1 = 1 from hk)]
  have bd := g1.gd.bad (c := 1) (by decide)
  have bad33 : ∃ T, f_X11_parseWord_L33 F M1 197 (nI o) = some T ∧ D9 (flM M1 t1 1) T := by
    unfold f_X11_parseWord_L33
    rw [g_errs g1.gd, ob_some]
    exact b_38 bd ho6 (by omega)
  obtain ⟨TB, tb1, tb2⟩ := bad33
  have fl := g1.fail (c := 1) (by decide) tb2
  by_cases hk : kdK f L t1 = 1
  rotate_left
  · exact Or.inr ⟨C1, _, TB, t1, n1, by rw [hC, if_pos hk], by rw [hM, if_pos hk]; exact tb1, fl.1, fl.2⟩
  obtain ⟨l1, l2, l3, l4⟩ := tk_let h8 hk
  have lets : ∀ k, k < enK f L t1 - t1 → letB (f (t1 + k)) := fun k h => by
    have := l4 (t1 + k) (by omega) (by omega)
    rw [← this.2]; exact this.1
  have we : sl C1 507 n = wEnc (fun k => f (t1 + k)) (enK f L t1 - t1) := by
    rw [(c5 hk).1]
    exact wEnc_c (fun k h => (l4 (t1 + k) (by omega) (by omega)).2)
  by_cases h10 : enK f L t1 - t1 ≤ 10
  rotate_left
  · refine Or.inr ⟨C1, _, TB, t1, n1, ?_, by rw [hM, if_neg (fun y => y hk), if_neg h10]; exact tb1, fl.1, fl.2⟩
    rw [hC, if_neg (fun y => y hk), if_neg]
    rw [we]
    unfold wEnc
    rw [if_neg h10]
    decide
  have wb := wv_b h10 lets
  have we2 : sl C1 507 n = lN (wv (fun k => f (t1 + k)) (enK f L t1 - t1)) := by
    rw [we]; unfold wEnc; rw [if_pos h10]
  have nm1 : ¬ lg_cmp (sl C1 507 n) (-1) = 0 := fun y => by
    have := (lg_cmp_eq _ _).mp y
    rw [we2] at this
    exact lN_m1 (by omega) this
  have g2 := g1.up (o := o + 4) (ho 4 (by omega) (by omega)) (nI (enK f L t1 - t1))
  have hM2 : f_X11_parseWord_L38 F M1 197 (nI o) = f_X11_parseWord_L57 F F (uai M1 199 (o + 4) (nI (enK f L t1 - t1))) 197 (nI o) 0 := by
    unfold f_X11_parseWord_L38
    rw [g1.gd.2.2.2.2, ob_some, g1.gd.1.l199, aL4, cki_nI (by omega) (by omega), nI_clamp (by omega), m3, m2, nI_sub (by omega)]
    rfl
  generalize uai M1 199 (o + 4) (nI (enK f L t1 - t1)) = M2 at *
  obtain ⟨T, t2, t3, t4, t5⟩ := t_word (F := F) (o := o) ho6 g2.gd.1 g2.gd.2.1 g2.gd.2.2.1 g2.gd.2.2.2.2 (by omega)
  rw [g2.1] at t5
  have g3 := g2.dr (M' := T) (fun k => o + 5 ≤ k ∧ k < o + 15) (fun k y => by
    have := ho (k - o) (by omega) (by omega)
    rw [show o + (k - o) = k by omega] at this
    exact byu (by omega) this) (fun k y => t5 k (by omega)) t3
  obtain ⟨C3, M3, p1, p2, g4⟩ := s_next (F := F) g3 hF
  have s4 := (nx_le (f := f) g3.le).1
  have dl : ∀ x, x < enK f L t1 - t1 → ai T 199 (o + 5 + x) = f (t1 + x) := fun x hx => by rw [t4 x (by omega), if_neg (by omega)]
  refine Or.inl ⟨ai T 199, enK f L t1 - t1, sl C1 507 n, C1, C3, M3, _, by omega, h10, ?_, fun x hx => by rw [dl x hx]; exact lets x hx, ?_, fun y => ?_, fun x hx => ?_, n1, ?_, ?_, g4⟩
  · rw [t5 _ (by omega), upd_e]
  · rw [we2, wdN_eq (fun k hk => by rw [dl k hk]; exact lets k hk), wv_c (g := fun k => f (t1 + k)) (fun k hk => dl k hk)]
  · have y' := (lg_cmp_eq _ _).mp y
    obtain ⟨c, hc⟩ : ∃ c, enK f L t1 - t1 = c + 1 := ⟨enK f L t1 - t1 - 1, by omega⟩
    rw [hc] at we2 wb
    have ge := wv_ge (f := fun k => f (t1 + k)) (c := c) (fun k h => lets k (by omega))
    have pp : 0 < 27 ^ c := Nat.pow_pos (by omega)
    have := (lN_inj (a := wv (fun k => f (t1 + k)) (c + 1)) (b := 0) (by omega) (by omega)).mp (by rw [← we2]; exact y')
    omega
  · rw [t5 x (by omega), upd_n (by omega)]
  · rw [hC, if_neg (fun y => y hk), if_pos nm1, p1, ob_some]
  · rw [hM, if_neg (fun y => y hk), if_pos h10, hM2, t2, p2, ob_some]
end Hp
