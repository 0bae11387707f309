/-! a user's statement: both sides -/
/-- how a statement comes out -/
def Out (f : Nat → Int32) (L n r : Nat) (C0 M0 : St) (s : Nat) (a : Option (Int32 × St)) (b : Option St) : Prop :=
  (∃ D' C' M' s', s < s' ∧ a = some (1, C') ∧ b = some M' ∧ Go f L n r C0 M0 D' C' M' s') ∨ (∃ C' M', a = some (0, C') ∧ b = some M' ∧ Fl f L n C0 M0 C' M')
section Us
variable {F : Nat} {f D : Nat → Int32} {L n r s : Nat} {C0 M0 C M C' M' : St}
theorem byu {E : Nat → Int32} {i x : Nat} {v : Int32} (hi : 11 ≤ i) (h : bey E x) : bey (upd E i v) x := by unfold bey at h ⊢; rw [d_k (k := 3) (by omega), d_k (k := 4) (by omega), d_k (k := 5) (by omega), d_k (k := 6) (by omega)]; exact h
theorem kw_of (g : Go f L n r C0 M0 D C M s) {j : Nat} (hj : j < 15) : sr C 508 n = some j ↔ isTx f L s j := kw_iff (fun i h => (g.2.1.2.1.2.2 i h).2) g.2.1.2.2.2.2.2.2.1 hj
theorem bad69 (b : BdM f L s M) {T : St} (d : D9 M T) : f_X11_parseStatement_L69 F T 197 = some T := b_69 (b.fr d)
theorem Go.p501 (g : Go f L n r C0 M0 D C M s) : sr C 501 n = some r := g.2.1.2.2.2.2.2.1
theorem Go.cr (g : Go f L n r C0 M0 D C M s) : CR C r D := by have := g.2.1.2.2.2.2.2.2.2.1; rw [g.1] at this; exact this
theorem Go.ru (g : Go f L n r C0 M0 D C M s) : RuF C r := g.cr.1
theorem Go.cn (g : Go f L n r C0 M0 D C M s) : cnD D := by have := g.2.1.2.2.2.2.2.2.2.2.1; rw [g.1] at this; exact this
theorem nI_nm {i : Nat} (h : i < 2 ^ 31) : ¬ nI i = (-1 : Int32) := fun y => absurd (show (0 : Int32) ≤ nI i from nI_le (a := 0) (by omega) h) (by rw [y]; decide)
/-- a word and a number behind it -/
theorem s_after {j lo hh : Nat} (hj : j < 15) (hh9 : hh ≤ 99999) (hlo : lo ≤ 99999) (g : Go f L n r C0 M0 D C M s) (hF : 10000 ≤ F) :
    (∃ v C1 C' M' s', s ≤ s' ∧ lo ≤ v ∧ v ≤ hh ∧ f_X6_take F C n j = some (1, C1) ∧ f_X6_takeNumber F C1 n (nI lo) (nI hh) = some (nI v, C') ∧ f_X11_numberAfter F M 197 j (nI lo) (nI hh) = some (nI v, M') ∧ Go f L n r C0 M0 D C' M' s') ∨
    (∃ C' M', f_X6_take F C n j = some (0, C') ∧ f_X11_numberAfter F M 197 j (nI lo) (nI hh) = some (nI lo, M') ∧ BdM f L s M' ∧ Fl f L n C0 M0 C' M') ∨
    (∃ C1 C' M' s', f_X6_take F C n j = some (1, C1) ∧ f_X6_takeNumber F C1 n (nI lo) (nI hh) = some (-1, C') ∧ f_X11_numberAfter F M 197 j (nI lo) (nI hh) = some (nI lo, M') ∧ BdM f L s' M' ∧ Fl f L n C0 M0 C' M') := by
  unfold f_X11_numberAfter
  rcases s_word (F := F) hj g hF with ⟨-, C1, M1, a1, b1, g1⟩ | ⟨C1, M1, a1, b1, bd, fl⟩
  rotate_left
  · exact Or.inr (Or.inl ⟨C1, M1, a1, by rw [b1, ob_some, b_number bd, ob_some]; rfl, bd, fl⟩)
  rcases s_num (F := F) hh9 hlo g1 hF with ⟨v, C2, M2, v1, v2, a2, b2, g2⟩ | ⟨C2, M2, a2, b2, bd, fl⟩
  · exact Or.inl ⟨v, C1, C2, M2, _, Nat.le_trans (nx_le g.le).1 (nx_le g1.le).1, v1, v2, a1, a2, by rw [b1, ob_some, b2, ob_some]; rfl, g2⟩
  · exact Or.inr (Or.inr ⟨C1, C2, M2, _, a1, a2, by rw [b1, ob_some, b2, ob_some]; rfl, bd, fl⟩)
theorem s_user (g : Go f L n r C0 M0 D C M s) (hs : s < L) (hF : 10000 ≤ F) : Out f L n r C0 M0 s (f_X6_userStatement F C n) (Option.bind (f_X11_parseUser F M 197) fun T => f_X11_parseStatement_L69 F T 197) := by
  have e0 := g.1
  have gd := g.gd
  obtain ⟨h1, h2, h3, h4, h5, h6, h7, h8, ⟨c3, c4, c5, c6⟩, h10, h11⟩ := g.2.1
  rw [e0] at c3 c4 c5 c6 h8
  obtain ⟨ru, ⟨q0, q1, q3, q4, q5, q6⟩, -⟩ := h8
  have b3 := c3.2
  have b4 := c4.2
  have b5 := c5.2
  have b6 := c6.2
  have full := e_full (F := F) (C := C) (q := r + 6) (c := kN D 4) (k := 10) ru.r400_6 (q4.trans c4.1) (by rw [show r + 6 + 1 = r + 7 by omega]; exact ru.l7) (by omega) b4
  have c26 : f_X6_userStatement_L26 F C n = some (0, flC C n s 4) := by
    unfold f_X6_userStatement_L26
    rw [e_fail h7, ob_some]
    simp only [lt_eq]
    rw [ck_t (Or.inl True.intro)]
  have m26 : f_X11_parseUser_L26 F M 197 0 197 = some (flM M s 4) := by
    rw [us_eq, g_begins0 gd, ob_some]
    simp only [lt_eq]
    rw [if_neg (fun y => y True.intro)]
  have f4 := g.fail (c := 4) (by decide) (Mf.rf _)
  have no : ∀ a b, a = some (0, flC C n s 4) → b = some (flM M s 4) → Out f L n r C0 M0 s a (Option.bind b fun T => f_X11_parseStatement_L69 F T 197) := fun a b e1 e2 => Or.inr ⟨_, _, e1, by rw [e2, ob_some]; exact b_69 f4.1, f4.2⟩
  unfold f_X6_userStatement f_X11_parseUser f_X11_parseUser_L25
  rw [h6, ob_some, ru.r606_0, ob_some, full, ob_some]
  simp only [lt_eq]
  rw [gd.2.2.2.2, ob_some, gd.1.l199, cL4 (by omega) (by omega), kL4, e0, c4.1]
  by_cases z : kN D 4 < 10
  rotate_left
  · rw [if_neg z, if_pos (show ¬ (1 : Int32) = 0 by decide), if_pos (show (10 : Int32) ≤ nI (kN D 4) from nI_le (a := 10) (by omega) (by omega))]
    exact no _ _ c26 m26
  rw [if_pos z, if_neg (fun y => y rfl), if_neg (show ¬ (10 : Int32) ≤ nI (kN D 4) from nI_ge (b := 10) z (by omega)), h6, ob_some, ru.r602_0, ob_some, q3, ob_some, gd.1.l199, cL3 (by omega) (by omega), kL3, e0, c3.1]
  by_cases z3 : kN D 3 = 0
  · rw [z3, if_neg (fun y => y rfl), if_pos (show nI 0 ≤ (0 : Int32) by decide)]
    exact no _ _ c26 m26
  rw [if_pos (show ¬ nI (kN D 3) = (0 : Int32) from fun y => z3 ((nI_eq (b := 0) (by omega) (by omega)).mp y)), if_neg (show ¬ nI (kN D 3) ≤ (0 : Int32) from nI_ge (a := 0) (b := kN D 3) (by omega) (by omega))]
  obtain ⟨C1, M1, n1, n2, g1⟩ := s_next (F := F) g hF
  have s1 := nx_gt (f := f) hs
  generalize nxK f L s = t1 at *
  rw [us_eq, g_begins gd n2 g1.gd, ob_some]
  simp only [lt_eq]
  rw [if_pos (show ¬ (1 : Int32) = 0 by decide), g1.gd.2.2.2.2, ob_some, g1.gd.1.l199, cL4 (by omega) (by omega), kL4, g1.1, c4.1, mL8, La83, aL2, n1, ob_some, g1.p501, ob_some, g1.ru.r606_0, ob_some, ob_some, g1.ru.r609_0, ob_some]
  rcases s_new (F := F) (p := 1) (q := 2) (o := 83 + 8 * kN D 4 + 2) (by omega) (by omega) (fun x hx => by unfold bey; omega) g1 hF with ⟨D2, K, w, C2, M2, hK, lets, rows, oth, hw, wne, a2, b2, g2⟩ | ⟨C2, M2, a2, b2, bd, fl⟩
  rotate_left
  · have a2' : f_X6_takeNewName F C1 n (r + 6) (r + 10) = some (0, C2) := a2
    have b2' : f_X11_newName F M1 197 1 2 (nI (83 + 8 * kN D 4 + 2)) = some M2 := b2
    obtain ⟨T, p1, p2⟩ := b_usr (F := F) bd (o := 83 + 8 * kN D 4) (by omega) (by omega)
    rw [a2', ob_some, b2', ob_some, p1, ob_some, bad69 bd p2]
    simp only [lt_eq]
    rw [if_pos (show lg_cmp 0 0 = 0 by decide)]
    exact Or.inr ⟨_, _, rfl, rfl, fl.d9 p2⟩
  have a2' : f_X6_takeNewName F C1 n (r + 6) (r + 10) = some (w, C2) := a2
  have b2' : f_X11_newName F M1 197 1 2 (nI (83 + 8 * kN D 4 + 2)) = some M2 := b2
  rw [a2', ob_some, b2', ob_some]
  simp only [lt_eq]
  rw [if_neg wne]
  have k2 : ∀ k, k < 11 → kN D2 k = kN D k := fun k hk => by unfold kN; rw [oth k (by omega)]
  have s2 := (nx_le (f := f) g1.le).1
  generalize nxK f L t1 = t2 at *
  rcases s_word (F := F) (j := 3) (by omega) g2 hF with ⟨-, C3, M3, a3, b3', g3⟩ | ⟨C3, M3, a3, b3', bd, fl⟩
  rotate_left
  · obtain ⟨T, p1, p2⟩ := b_us2 (F := F) bd (o := 83 + 8 * kN D 4) (by omega) (by omega)
    rw [a3, ob_some, b3', ob_some, p1, ob_some, bad69 bd p2]
    simp only [lt_eq]
    rw [if_neg (fun y => y True.intro)]
    exact Or.inr ⟨_, _, rfl, rfl, fl.d9 p2⟩
  rw [a3, ob_some, b3', ob_some]
  simp only [lt_eq]
  rw [if_pos (show ¬ (1 : Int32) = 0 by decide), g3.p501, ob_some, g3.ru.r602_0, ob_some]
  unfold us2
  rw [g3.gd.2.2.2.2, ob_some]
  have s3 := (nx_le (f := f) g2.le).1
  generalize nxK f L t2 = t3 at *
  rcases s_old (F := F) (p := 0) (by omega) g3 hF with ⟨i, C4, M4, hi, a4, b4', g4⟩ | ⟨v, C4, M4, a4, b4', bd, fl⟩
  rotate_left
  · have a4' : f_X6_takeKnown F C3 n (r + 1) = some (-1, C4) := a4
    have b4'' : f_X11_oldName F M3 197 0 = some (v, M4) := b4'
    have d1 : D9 M4 (uai M4 199 (83 + 8 * kN D 4) v) := D9.uai _
    obtain ⟨T, p1, p2⟩ := b_us3 (F := F) (bd.fr d1) (o := 83 + 8 * kN D 4) (by omega) (by omega)
    rw [a4', ob_some, b4'', ob_some]
    simp only [lt_eq]
    rw [bd.1.l199, Int32.add_zero, cki_nI (by omega) (by omega), nI_clamp (by omega), p1, ob_some, bad69 bd (d1.tr p2), if_pos True.intro]
    exact Or.inr ⟨_, _, rfl, rfl, fl.d9 (d1.tr p2)⟩
  have a4' : f_X6_takeKnown F C3 n (r + 1) = some (nI i, C4) := a4
  have b4'' : f_X11_oldName F M3 197 0 = some (nI i, M4) := b4'
  have hi' : i < kN D 3 := by rw [k2 3 (by omega)] at hi; exact hi
  rw [a4', ob_some, b4'', ob_some]
  simp only [lt_eq]
  rw [g4.gd.1.l199, Int32.add_zero, cki_nI (by omega) (by omega), nI_clamp (by omega), if_neg (nI_nm (by omega))]
  have s4 := (nx_le (f := f) g3.le).1
  generalize nxK f L t3 = t4 at *
  have g5 := g4.up (o := 83 + 8 * kN D 4) (by unfold bey; rw [k2 4 (by omega)]; omega) (nI i)
  generalize uai M4 199 (83 + 8 * kN D 4) (nI i) = M5 at *
  unfold us3
  rw [g5.gd.2.2.2.2, ob_some]
  rcases s_after (F := F) (j := 9) (lo := 1) (hh := 99999) (by omega) (by omega) (by omega) g5 hF with ⟨v, C6, C7, M7, t7, s7, v1, v2, a6, a7, b7, g7⟩ | ⟨C6, M7, a6, b7, bd, fl⟩ | ⟨C6, C7, M7, t7, a6, a7, b7, bd, fl⟩
  rotate_left
  · have b7' : f_X11_numberAfter F M5 197 9 1 99999 = some (1, M7) := b7
    have d1 : D9 M7 (uai M7 199 (83 + 8 * kN D 4 + 1) 1) := D9.uai _
    have d2 := d1.tr (D9.uai (k := 4) (ai (uai M7 199 (83 + 8 * kN D 4 + 1) 1) 199 4 + 1))
    have b1 := bd.fr d1
    rw [a6, ob_some, b7', ob_some]
    simp only [lt_eq]
    rw [bd.1.l199, nI_1, cki_nI (by omega) (by omega), nI_clamp (by omega), b1.2.2.2.2, ob_some, b1.1.l199, cL4 (by omega) (by omega), cL4 (by omega) (by omega), kL4, ob_some, bad69 bd d2, if_neg (fun y => y True.intro)]
    exact Or.inr ⟨_, _, rfl, rfl, fl.d9 d2⟩
  · have b7' : f_X11_numberAfter F M5 197 9 1 99999 = some (1, M7) := b7
    have a7' : f_X6_takeNumber F C6 n 1 99999 = some (-1, C7) := a7
    have d1 : D9 M7 (uai M7 199 (83 + 8 * kN D 4 + 1) 1) := D9.uai _
    have d2 := d1.tr (D9.uai (k := 4) (ai (uai M7 199 (83 + 8 * kN D 4 + 1) 1) 199 4 + 1))
    have b1 := bd.fr d1
    rw [a6, ob_some, b7', ob_some]
    simp only [lt_eq]
    rw [if_pos (show ¬ (1 : Int32) = 0 by decide), a7', ob_some]
    simp only [lt_eq]
    rw [bd.1.l199, nI_1, cki_nI (by omega) (by omega), nI_clamp (by omega), b1.2.2.2.2, ob_some, b1.1.l199, cL4 (by omega) (by omega), cL4 (by omega) (by omega), kL4, ob_some, bad69 bd d2, if_pos True.intro]
    exact Or.inr ⟨_, _, rfl, rfl, fl.d9 d2⟩
  have b7' : f_X11_numberAfter F M5 197 9 1 99999 = some (nI v, M7) := b7
  have a7' : f_X6_takeNumber F C6 n 1 99999 = some (nI v, C7) := a7
  have g8 := g7.up (o := 83 + 8 * kN D 4 + 1) (byu (by omega) (by unfold bey; rw [k2 4 (by omega)]; omega)) (nI v)
  rw [a6, ob_some, b7', ob_some]
  simp only [lt_eq]
  rw [if_pos (show ¬ (1 : Int32) = 0 by decide), a7', ob_some]
  simp only [lt_eq]
  rw [if_neg (nI_nm (by omega)), g7.gd.1.l199, nI_1, cki_nI (by omega) (by omega), nI_clamp (by omega)]
  generalize uai M7 199 (83 + 8 * kN D 4 + 1) (nI v) = M8 at *
  generalize hD8 : upd (upd D2 (83 + 8 * kN D 4) (nI i)) (83 + 8 * kN D 4 + 1) (nI v) = D8 at *
  have k8 : ∀ k, k < 11 → kN D8 k = kN D k := fun k hk => by rw [← hD8, d_k (by omega), d_k (by omega), k2 k hk]
  have e8 : D8 4 = nI (kN D 4) := by have := g8.cn.2.1.1; rw [k8 4 (by omega)] at this; exact this
  rw [g8.gd.2.2.2.2, ob_some, g8.gd.1.l199, cL4 (by omega) (by omega), cL4 (by omega) (by omega), kL4, ob_some, g8.1]
  rcases s_tail (F := F) g8 4 (D8 4 + 1) hF with ⟨C9, T9, M9, a9, b9, g9, gd9, e9, m9, mf9, lt9⟩ | ⟨C9, M9, a9, b9, fl⟩
  rotate_left
  · rw [a9, ob_some, b9]
    simp only [lt_eq]
    rw [if_neg (fun y => y True.intro)]
    exact Or.inr ⟨_, _, rfl, rfl, fl⟩
  have e09 := g9.1
  have r8 : ∀ x, x < 6 → D8 (85 + 8 * kN D 4 + x) = if K ≤ x then 0 else f (t1 + x) := fun x hx => by
    rw [← hD8, upd_n (by omega), upd_n (by omega), show 85 + 8 * kN D 4 + x = 83 + 8 * kN D 4 + 2 + x by omega]
    exact rows x hx
  obtain ⟨C10, p1, p2, p3, p4, p5⟩ := e_addUser (F := F) (w := w) (cls := i) (q := v) (K := K) (t := t1) g9.2.1 (by rw [e09, k8 4 (by omega)]; exact z) (by rw [e09, k8 4 (by omega), k8 3 (by omega), ← hD8, upd_n (by omega), upd_e]; exact ⟨rfl, hi'⟩) (by rw [e09, k8 4 (by omega), ← hD8, show 84 + 8 * kN D 4 = 83 + 8 * kN D 4 + 1 by omega, upd_e]; exact ⟨rfl, v1, v2⟩) hK lets (by rw [e09, k8 4 (by omega)]; exact r8) hw
  have fin := s_add (q := 4) g9 p2 p3 e9 gd9 m9 mf9 (by omega)
  rw [a9, ob_some, b9]
  simp only [lt_eq]
  rw [if_pos (show ¬ (1 : Int32) = 0 by decide), g9.p501, ob_some, p1, ob_some]
  exact Or.inl ⟨_, _, _, _, by omega, rfl, rfl, fin⟩
end Us
