/-! a hold's statement: both sides -/
def hoR (f D : Nat → Int32) (c t K : Nat) (w : Int64) : Prop := kN D 6 = c ∧ c < 6 ∧ (1 ≤ K ∧ K ≤ 6) ∧ (∀ k, k < K → letB (f (t + k))) ∧ (∀ x, x < 6 → D (220 + 21 * c + x) = if K ≤ x then 0 else f (t + x)) ∧ w = lN (wv (fun k => f (t + k)) K)
def hoA (D : Nat → Int32) (c u a b : Nat) (v4 : Int32) : Prop := D (205 + 21 * c) = nI u ∧ u < kN D 4 ∧ D (206 + 21 * c) = nI a ∧ a ≤ 9999 ∧ D (207 + 21 * c) = nI b ∧ b ≤ 20000 ∧ (v4 = nI b ∨ (v4 = 1000000000 ∧ nI b = 20000))
section Hs
variable {F : Nat} {f D : Nat → Int32} {L n r s : Nat} {C0 M0 C M C' M' : St}
theorem hoR.up {c t K i : Nat} {w : Int64} (h : hoR f D c t K w) (hi : 205 + 21 * c ≤ i ∧ i < 220 + 21 * c) (v : Int32) : hoR f (upd D i v) c t K w := ⟨by rw [d_k (by omega)]; exact h.1, h.2.1, h.2.2.1, h.2.2.2.1, fun x hx => by rw [upd_n (by omega)]; exact h.2.2.2.2.1 x hx, h.2.2.2.2.2⟩
theorem hoA.up {c u a b i : Nat} {v4 : Int32} (h : hoA D c u a b v4) (hi : 208 + 21 * c ≤ i) (v : Int32) : hoA (upd D i v) c u a b v4 := ⟨by rw [upd_n (by omega)]; exact h.1, by rw [d_k (by omega)]; exact h.2.1, by rw [upd_n (by omega)]; exact h.2.2.1, h.2.2.2.1, by rw [upd_n (by omega)]; exact h.2.2.2.2.1, h.2.2.2.2.2.1, h.2.2.2.2.2.2⟩
/-- a hold's row is added -/
theorem s_add6 {c : Nat} {C2 T : St} (g : Go f L n r C0 M0 D C T s) (h : Sim f L n r C2 (uai T 199 6 (ai T 199 6 + 1)) s) (fr : ∀ k, ¬ (r ≤ k ∧ k ≤ r + 18) → SameO C C2 k) (e : ai M' 199 = upd D 6 (D 6 + 1)) (gd : GdM f L s M') (m4 : si M' 1014 197 = -1) (mf : Mf scE is199 M0 M') (hc : kN D 6 = c ∧ c < 6) (ha : D (208 + 21 * c) = 1) : Go f L n r C0 M0 (upd D 6 (D 6 + 1)) C2 M' s := by
  have c6 := g.cn.2.2.2.1
  obtain ⟨e0, k1, ⟨⟨z1, z2, z3⟩, ⟨z4, z5, z6⟩, z7⟩, k2, k3, k4, k5⟩ := g
  have hnr : n < r := k1.2.2.2.1
  have ee : ai (uai T 199 6 (ai T 199 6 + 1)) 199 = ai M' 199 := by rw [ai_uaiE, e0, e]
  obtain ⟨h1, h2, h3, h4, h5, h6, h7, h8, h9, h10, h11⟩ := h
  rw [ee] at h8 h9 h10
  have e6 : D 6 + 1 = nI (c + 1) := by rw [c6, hc.1, nI_1]
  refine ⟨e, ⟨h1, h2, h3, h4, h5, h6, h7, h8, h9, h10, gd⟩, ⟨⟨(d_cnt (by omega)).mpr z1, (d_cnt (by omega)).mpr z2, by rw [d_k (by omega)]; exact z3⟩, ⟨by rw [upd_n (by omega)]; exact z4, fun k a b => by rw [upd_n (by omega)]; exact z5 k a b, fun k a b => by rw [upd_n (by omega)]; exact z6 k a b⟩, fun x hx => ?_⟩, m4, ((fr n (by omega)).1 502).trans k3, ((fr n (by omega)).1 503).trans k4, fun k hk => (k5.1 k hk).tr (fr k (by omega)), mf⟩
  rw [e6, (isCnt_nI (b := 6) (upd_e _ _ _) (by omega) (by omega)).2] at hx
  rw [upd_n (by omega)]
  by_cases y : x = c
  · rw [y]; exact ha
  · exact z7 x (by omega)
theorem s_ho6 {w w2 : Int64} {v4 : Int32} {K t c u a b k : Nat} (g : Go f L n r C0 M0 D C M s) (hr : hoR f D c t K w) (ha : hoA D c u a b v4) (h8 : D (208 + 21 * c) = 1) (h9 : D (209 + 21 * c) = nI k ∧ k ≤ 10) (hl : ∀ x, x < k → letB (D (210 + 21 * c + x))) (hw2 : w2 = wdN D (210 + 21 * c) k) (hF : 10000 ≤ F) :
    Out f L n r C0 M0 s (f_X6_holdStatement_L192 F C n w (nI u) (nI a) v4 w2) (f_X11_parseStatement_L69 F (uai M 199 6 (D 6 + 1)) 197) := by
  obtain ⟨r1, r2, r3, r4, r5, r6⟩ := hr
  obtain ⟨a1, a2, a3, a4, a5, a6, a7⟩ := ha
  unfold f_X6_holdStatement_L192
  rcases s_tail (F := F) g 6 (D 6 + 1) hF with ⟨C9, T9, M9, a9, b9, g9, gd9, e9, m9, mf9, lt9⟩ | ⟨C9, M9, a9, b9, fl⟩
  rotate_left
  · rw [a9, ob_some, b9]
    simp only [lt_eq]
    rw [if_neg (fun y => y True.intro)]
    exact Or.inr ⟨_, _, rfl, rfl, fl⟩
  have e09 := g9.1
  obtain ⟨C10, p1, p2, p3, p4, p5⟩ := e_addHold (F := F) (w := w) (w2 := w2) (u := u) (a := a) (b := b) (k := k) (v4 := v4) (K := K) (t := t) g9.2.1 (by rw [e09, r1]; exact r2) (by rw [e09, r1]; exact ⟨a1, a2⟩) (by rw [e09, r1]; exact ⟨a3, a4⟩) (by rw [e09, r1]; exact ⟨a5, a6⟩) a7 (by rw [e09, r1]; exact h8) (by rw [e09, r1]; exact h9) (by rw [e09, r1]; exact hl) (by rw [e09, r1]; exact hw2) r3 r4 (by rw [e09, r1]; exact r5) r6
  have fin := s_add6 g9 p2 p3 e9 gd9 m9 mf9 ⟨r1, r2⟩ h8
  rw [a9, ob_some, b9]
  simp only [lt_eq]
  rw [if_pos (show ¬ (1 : Int32) = 0 by decide), g9.p501, ob_some, p1, ob_some]
  exact Or.inl ⟨_, _, _, _, lt9, rfl, rfl, fin⟩
theorem s_175 {w w2 : Int64} {v4 : Int32} {K t c u a b k : Nat} (g : Go f L n r C0 M0 D C M s) (hr : hoR f D c t K w) (ha : hoA D c u a b v4) (h9 : D (209 + 21 * c) = nI k ∧ k ≤ 10) (hl : ∀ x, x < k → letB (D (210 + 21 * c + x))) (hw2 : w2 = wdN D (210 + 21 * c) k) (hF : 10000 ≤ F) :
    Out f L n r C0 M0 s (f_X6_holdStatement_L192 F C n w (nI u) (nI a) v4 w2) (Option.bind (f_X11_parseHold_L175 F M 197 (nI (205 + 21 * c))) fun T => f_X11_parseStatement_L69 F T 197) := by
  have r1 := hr.1
  have r2 := hr.2.1
  have g1 := g.up (o := 205 + 21 * c + 3) (by unfold bey; omega) 1
  have h9' := h9.2
  unfold f_X11_parseHold_L175
  rw [g.gd.2.2.2.2, ob_some, g.gd.1.l199, aL3, cki_nI (by omega) (by omega), nI_clamp (by omega)]
  simp only [lt_eq]
  rw [g1.gd.2.2.2.2, ob_some, g1.gd.1.l199, cL6 (by omega) (by omega), cL6 (by omega) (by omega), kL6, ob_some, g1.1]
  exact s_ho6 (k := k) g1 (hr.up (by omega) _) (ha.up (by omega) _) (by rw [show 208 + 21 * c = 205 + 21 * c + 3 by omega, upd_e]) ⟨by rw [upd_n (by omega)]; exact h9.1, h9.2⟩ (fun x hx => by rw [upd_n (by omega)]; exact hl x hx) (by rw [d_wd (by omega)]; exact hw2) hF
theorem s_152 {w : Int64} {v4 : Int32} {K t c u a b : Nat} (g : Go f L n r C0 M0 D C M s) (hr : hoR f D c t K w) (ha : hoA D c u a b v4) (hF : 10000 ≤ F) :
    Out f L n r C0 M0 s (f_X6_holdStatement_L160 F C n w (nI u) (nI a) v4) (Option.bind (f_X11_parseHold_L152 F M 197 (nI (205 + 21 * c))) fun T => f_X11_parseStatement_L69 F T 197) := by
  have r1 := hr.1
  have r2 := hr.2.1
  have g1 := g.up (o := 205 + 21 * c + 4) (by unfold bey; omega) 0
  unfold f_X6_holdStatement_L160 f_X11_parseHold_L152
  rw [g.gd.2.2.2.2, ob_some, g.gd.1.l199, aL4, cki_nI (by omega) (by omega), nI_clamp (by omega)]
  simp only [lt_eq]
  generalize uai M 199 (205 + 21 * c + 4) 0 = M1 at *
  rw [ck_t (kw_lt g1.tk), g_isText g1.gd (by omega) (by omega), ob_some]
  simp only [lt_eq]
  by_cases z : isTx f L s 14
  rotate_left
  · rw [if_pos (fun y => z ((kw_of g1 (by omega)).mp y)), pI_f z, if_pos rfl]
    exact s_175 (k := 0) g1 (hr.up (by omega) _) (ha.up (by omega) _) ⟨by rw [show 209 + 21 * c = 205 + 21 * c + 4 by omega, upd_e]; rfl, by omega⟩ (fun x hx => by omega) rfl hF
  rw [if_neg (fun y => y ((kw_of g1 (by omega)).mpr z)), pI_t z, if_neg (show ¬ (1 : Int32) = 0 by decide)]
  rcases s_hword (F := F) (o := 205 + 21 * c) (fun x h1 h2 => byu (by omega) (by unfold bey; omega)) g1 z hF with ⟨D', k, w', C1, C2, M2, t2, q1, q2, q3, q4, q5, q6, q7, q8, q9, q10, g2⟩ | ⟨C1, C2, M2, t2, q8, q9, q10, bd, fl⟩
  rotate_left
  · obtain ⟨T, p1, p2⟩ := b_175 (F := F) bd (o := 205 + 21 * c) (by omega)
    rw [q8, ob_some, q9, ob_some, q10, ob_some, p1, ob_some, bad69 bd p2]
    simp only [lt_eq]
    rw [if_neg (fun y => y (show lg_cmp 0 0 = 0 by decide))]
    exact Or.inr ⟨_, _, rfl, rfl, fl.d9 p2⟩
  rw [q8, ob_some, q9, ob_some, q10, ob_some]
  simp only [lt_eq]
  rw [if_pos q6]
  have lo : ∀ x, (x < 209 + 21 * c ∨ 220 + 21 * c ≤ x) → D' x = D x := fun x hx => by rw [q7 x (by omega), upd_n (by omega)]
  have kn : ∀ x, x < 11 → kN D' x = kN D x := fun x hx => by unfold kN; rw [lo x (by omega)]
  have hr2 : hoR f D' c t K w := ⟨by rw [kn 6 (by omega)]; exact hr.1, hr.2.1, hr.2.2.1, hr.2.2.2.1, fun x hx => by rw [lo _ (by omega)]; exact hr.2.2.2.2.1 x hx, hr.2.2.2.2.2⟩
  have ha2 : hoA D' c u a b v4 := ⟨by rw [lo _ (by omega)]; exact ha.1, by rw [kn 4 (by omega)]; exact ha.2.1, by rw [lo _ (by omega)]; exact ha.2.2.1, ha.2.2.2.1, by rw [lo _ (by omega)]; exact ha.2.2.2.2.1, ha.2.2.2.2.2⟩
  exact (s_175 (k := k) g2 hr2 ha2 ⟨by rw [show 209 + 21 * c = 205 + 21 * c + 4 by omega]; exact q3, q2⟩ (fun x hx => by rw [show 210 + 21 * c + x = 205 + 21 * c + 5 + x by omega]; exact q4 x hx) (by rw [show 210 + 21 * c = 205 + 21 * c + 5 by omega]; exact q5) hF).lo q1
theorem s_hold (g : Go f L n r C0 M0 D C M s) (hs : s < L) (hF : 10000 ≤ F) : Out f L n r C0 M0 s (f_X6_holdStatement F C n) (Option.bind (f_X11_parseHold F M 197) fun T => f_X11_parseStatement_L69 F T 197) := by
  have gd := g.gd
  obtain ⟨c3, c4, c5, c6⟩ := g.cn
  obtain ⟨ru, ⟨q0, q1, q3, q4, q5, q6⟩, -⟩ := g.cr
  have b4 := c4.2
  have b6 := c6.2
  have full := e_full (F := F) (C := C) (q := r + 13) (c := kN D 6) (k := 6) ru.r400_13 (q6.trans c6.1) (by rw [show r + 13 + 1 = r + 14 by omega]; exact ru.l14) (by omega) b6
  have c26 : f_X6_holdStatement_L26 F C n = some (0, flC C n s 4) := by
    unfold f_X6_holdStatement_L26
    rw [e_fail g.tk, ob_some]
    simp only [lt_eq]
    rw [ck_t (Or.inl True.intro)]
  have m26 : f_X11_parseHold_L27 F M 197 0 197 = some (flM M s 4) := by
    rw [ho_eq, g_begins0 gd, ob_some]
    simp only [lt_eq]
    rw [if_neg (fun y => y True.intro)]
  have f4 := g.fail (c := 4) (by decide) (Mf.rf _)
  have no : ∀ a b, a = some (0, flC C n s 4) → b = some (flM M s 4) → Out f L n r C0 M0 s a (Option.bind b fun T => f_X11_parseStatement_L69 F T 197) := fun a b e1 e2 => Or.inr ⟨_, _, e1, by rw [e2, ob_some]; exact b_69 f4.1, f4.2⟩
  unfold f_X6_holdStatement f_X11_parseHold f_X11_parseHold_L26
  rw [g.p501, ob_some, ru.r611_0, ob_some, full, ob_some]
  simp only [lt_eq]
  rw [gd.2.2.2.2, ob_some, gd.1.l199, cL6 (by omega) (by omega), kL6, g.1, c6.1]
  by_cases z : kN D 6 < 6
  rotate_left
  · rw [if_neg z, if_pos (show ¬ (1 : Int32) = 0 by decide), if_pos (show (6 : Int32) ≤ nI (kN D 6) from nI_le (a := 6) (by omega) (by omega))]
    exact no _ _ c26 m26
  rw [if_pos z, if_neg (fun y => y rfl), if_neg (show ¬ (6 : Int32) ≤ nI (kN D 6) from nI_ge (b := 6) z (by omega)), g.p501, ob_some, ru.r606_0, ob_some, q4, ob_some, gd.1.l199, cL4 (by omega) (by omega), kL4, g.1, c4.1]
  by_cases z3 : kN D 4 = 0
  · rw [z3, if_neg (fun y => y rfl), if_pos (show nI 0 ≤ (0 : Int32) by decide)]
    exact no _ _ c26 m26
  rw [if_pos (show ¬ nI (kN D 4) = (0 : Int32) from fun y => z3 ((nI_eq (b := 0) (by omega) (by omega)).mp y)), if_neg (show ¬ nI (kN D 4) ≤ (0 : Int32) from nI_ge (a := 0) (b := kN D 4) (by omega) (by omega))]
  obtain ⟨C1, M1, n1, n2, g1⟩ := s_next (F := F) g hF
  have s1 := nx_gt (f := f) hs
  generalize nxK f L s = t1 at *
  rw [ho_eq, g_begins gd n2 g1.gd, ob_some]
  simp only [lt_eq]
  rw [if_pos (show ¬ (1 : Int32) = 0 by decide), g1.gd.2.2.2.2, ob_some, g1.gd.1.l199, cL6 (by omega) (by omega), kL6, g1.1, c6.1, mL21, La205, aL15, n1, ob_some, g1.p501, ob_some, g1.ru.r611_0, ob_some, ob_some, g1.ru.r611_0, ob_some]
  rcases s_new (F := F) (p := 3) (q := 3) (o := 205 + 21 * kN D 6 + 15) (by omega) (by omega) (fun x hx => by unfold bey; omega) g1 hF with ⟨D2, K, w, C2, M2, hK, lets, rows, oth, hw, wne, a2, b2, g2⟩ | ⟨C2, M2, a2, b2, bd, fl⟩
  rotate_left
  · have a2' : f_X6_takeNewName F C1 n (r + 13) (r + 13) = some (0, C2) := a2
    have b2' : f_X11_newName F M1 197 3 3 (nI (205 + 21 * kN D 6 + 15)) = some M2 := b2
    obtain ⟨T, p1, p2⟩ := b_hol (F := F) bd (o := 205 + 21 * kN D 6) (by omega) (by omega)
    rw [a2', ob_some, b2', ob_some, p1, ob_some, bad69 bd p2]
    simp only [lt_eq]
    rw [if_pos (show lg_cmp 0 0 = 0 by decide)]
    exact Or.inr ⟨_, _, rfl, rfl, fl.d9 p2⟩
  have a2' : f_X6_takeNewName F C1 n (r + 13) (r + 13) = some (w, C2) := a2
  have b2' : f_X11_newName F M1 197 3 3 (nI (205 + 21 * kN D 6 + 15)) = some M2 := b2
  rw [a2', ob_some, b2', ob_some]
  simp only [lt_eq]
  rw [if_neg wne]
  have k2 : ∀ k, k < 11 → kN D2 k = kN D k := fun k hk => by unfold kN; rw [oth k (by omega)]
  have hr2 : hoR f D2 (kN D 6) t1 K w := ⟨k2 6 (by omega), z, hK, lets, fun x hx => by rw [show 220 + 21 * kN D 6 + x = 205 + 21 * kN D 6 + 15 + x by omega]; exact rows x hx, hw⟩
  have s2 := (nx_le (f := f) g1.le).1
  generalize nxK f L t1 = t2 at *
  rcases s_word (F := F) (j := 8) (by omega) g2 hF with ⟨-, C3, M3, a3, b3', g3⟩ | ⟨C3, M3, a3, b3', bd, fl⟩
  rotate_left
  · obtain ⟨T, p1, p2⟩ := b_ho2 (F := F) bd (o := 205 + 21 * kN D 6) (by omega) (by omega)
    rw [a3, ob_some, b3', ob_some, p1, ob_some, bad69 bd p2]
    simp only [lt_eq]
    rw [if_neg (fun y => y True.intro)]
    exact Or.inr ⟨_, _, rfl, rfl, fl.d9 p2⟩
  rw [a3, ob_some, b3', ob_some]
  simp only [lt_eq]
  rw [if_pos (show ¬ (1 : Int32) = 0 by decide), g3.p501, ob_some, g3.ru.r606_0, ob_some]
  unfold ho2
  rw [g3.gd.2.2.2.2, ob_some]
  have s3 := (nx_le (f := f) g2.le).1
  generalize nxK f L t2 = t3 at *
  rcases s_old (F := F) (p := 1) (by omega) g3 hF with ⟨i, C4, M4, hi, a4, b4', g4⟩ | ⟨v, C4, M4, a4, b4', bd, fl⟩
  rotate_left
  · have a4' : f_X6_takeKnown F C3 n (r + 6) = some (-1, C4) := a4
    have b4'' : f_X11_oldName F M3 197 1 = some (v, M4) := b4'
    have d1 : D9 M4 (uai M4 199 (205 + 21 * kN D 6) v) := D9.uai _
    obtain ⟨T, p1, p2⟩ := b_ho3 (F := F) (bd.fr d1) (o := 205 + 21 * kN D 6) (by omega) (by omega)
    rw [a4', ob_some, b4'', ob_some]
    simp only [lt_eq]
    rw [bd.1.l199, Int32.add_zero, cki_nI (by omega) (by omega), nI_clamp (by omega), p1, ob_some, bad69 bd (d1.tr p2), if_neg (fun y => y True.intro)]
    exact Or.inr ⟨_, _, rfl, rfl, fl.d9 (d1.tr p2)⟩
  have a4' : f_X6_takeKnown F C3 n (r + 6) = some (nI i, C4) := a4
  have b4'' : f_X11_oldName F M3 197 1 = some (nI i, M4) := b4'
  have hi' : i < kN D 4 := by rw [k2 4 (by omega)] at hi; exact hi
  rw [a4', ob_some, b4'', ob_some]
  simp only [lt_eq]
  rw [g4.gd.1.l199, Int32.add_zero, cki_nI (by omega) (by omega), nI_clamp (by omega), if_pos (nI_nm (by omega))]
  have s4 := (nx_le (f := f) g3.le).1
  generalize nxK f L t3 = t4 at *
  have by2 : ∀ x, x < 15 → bey D2 (205 + 21 * kN D 6 + x) := fun x hx => by unfold bey; rw [k2 6 (by omega)]; omega
  have g5 := g4.up (o := 205 + 21 * kN D 6) (by2 0 (by omega)) (nI i)
  have hr5 := hr2.up (i := 205 + 21 * kN D 6) (by omega) (nI i)
  have g6 := g5.up (o := 205 + 21 * kN D 6 + 1) (byu (by omega) (by2 1 (by omega))) 0
  have hr6 := hr5.up (i := 205 + 21 * kN D 6 + 1) (by omega) 0
  have g7 := g6.up (o := 205 + 21 * kN D 6 + 2) (byu (by omega) (byu (by omega) (by2 2 (by omega)))) 20000
  have hr7 := hr6.up (i := 205 + 21 * kN D 6 + 2) (by omega) 20000
  unfold ho3
  rw [g5.gd.2.2.2.2, ob_some, g5.gd.1.l199, nI_1, cki_nI (by omega) (by omega), nI_clamp (by omega)]
  simp only [lt_eq]
  rw [g6.gd.2.2.2.2, ob_some, g6.gd.1.l199, aL2, cki_nI (by omega) (by omega), nI_clamp (by omega), g_isText g7.gd (by omega) (by omega), ob_some]
  simp only [lt_eq]
  have d0 : ∀ (v v' v'' : Int32), (upd (upd (upd D2 (205 + 21 * kN D 6) v) (205 + 21 * kN D 6 + 1) v') (205 + 21 * kN D 6 + 2) v'') (205 + 21 * kN D 6) = v := fun v v' v'' => by rw [upd_n (by omega), upd_n (by omega), upd_e]
  rw [ck_t (kw_lt g4.tk)]
  by_cases zf : isTx f L t4 12
  rotate_left
  · rw [if_pos (fun y => zf ((kw_of g4 (by omega)).mp y)), pI_f zf, if_pos rfl]
    exact (s_152 (a := 0) (b := 20000) g7 hr7 ⟨by rw [d0], by rw [d_k (by omega), d_k (by omega), d_k (by omega), k2 4 (by omega)]; exact hi', by rw [show 206 + 21 * kN D 6 = 205 + 21 * kN D 6 + 1 by omega, upd_n (by omega), upd_e]; rfl, by omega, by rw [show 207 + 21 * kN D 6 = 205 + 21 * kN D 6 + 2 by omega, upd_e]; rfl, by omega, Or.inr ⟨rfl, rfl⟩⟩ hF).lo (by omega)
  obtain ⟨C8, M8, n3, n4, g8⟩ := s_next (F := F) g7 hF
  have s8 := (nx_le (f := f) g7.le).1
  rw [if_neg (fun y => y ((kw_of g4 (by omega)).mpr zf)), pI_t zf, if_neg (show ¬ (1 : Int32) = 0 by decide), n3, ob_some]
  unfold ho4
  rw [n4, ob_some, g8.gd.2.2.2.2, ob_some]
  generalize nxK f L t4 = t8 at *
  rcases s_num (F := F) (lo := 0) (hh := 9999) (by omega) (by omega) g8 hF with ⟨a, C9, M9, v1, v2, a9, b9, g9⟩ | ⟨C9, M9, a9, b9, bd, fl⟩
  rotate_left
  · have a9' : f_X6_takeNumber F C8 n 0 9999 = some (-1, C9) := a9
    have b9' : f_X11_number F M8 197 0 9999 = some (0, M9) := b9
    have d1 : D9 M9 (uai M9 199 (205 + 21 * kN D 6 + 1) 0) := D9.uai _
    obtain ⟨T, p1, p2⟩ := b_ho5 (F := F) (bd.fr d1) (o := 205 + 21 * kN D 6) (by omega) (by omega)
    rw [a9', ob_some, b9', ob_some]
    simp only [lt_eq]
    rw [bd.1.l199, nI_1, cki_nI (by omega) (by omega), nI_clamp (by omega), p1, ob_some, bad69 bd (d1.tr p2), if_pos True.intro]
    exact Or.inr ⟨_, _, rfl, rfl, fl.d9 (d1.tr p2)⟩
  have a9' : f_X6_takeNumber F C8 n 0 9999 = some (nI a, C9) := a9
  have b9' : f_X11_number F M8 197 0 9999 = some (nI a, M9) := b9
  rw [a9', ob_some, b9', ob_some]
  simp only [lt_eq]
  rw [g9.gd.1.l199, nI_1, cki_nI (by omega) (by omega), nI_clamp (by omega), if_neg (nI_nm (by omega))]
  have s9 := (nx_le (f := f) g8.le).1
  have by9 : ∀ x, x < 15 → bey (upd (upd (upd D2 (205 + 21 * kN D 6) (nI i)) (205 + 21 * kN D 6 + 1) 0) (205 + 21 * kN D 6 + 2) 20000) (205 + 21 * kN D 6 + x) := fun x hx => byu (by omega) (byu (by omega) (byu (by omega) (by2 x hx)))
  have g10 := g9.up (o := 205 + 21 * kN D 6 + 1) (by9 1 (by omega)) (nI a)
  have hr10 := hr7.up (i := 205 + 21 * kN D 6 + 1) (by omega) (nI a)
  have k7 : kN (upd (upd (upd D2 (205 + 21 * kN D 6) (nI i)) (205 + 21 * kN D 6 + 1) 0) (205 + 21 * kN D 6 + 2) 20000) 4 = kN D 4 := by rw [d_k (by omega), d_k (by omega), d_k (by omega), k2 4 (by omega)]
  have e7 := d0 (nI i) 0 20000
  generalize upd (upd (upd D2 (205 + 21 * kN D 6) (nI i)) (205 + 21 * kN D 6 + 1) 0) (205 + 21 * kN D 6 + 2) 20000 = D7 at *
  generalize nxK f L t8 = t9 at *
  unfold ho5
  rw [g10.gd.2.2.2.2, ob_some, ob_some, g10.gd.1.l199, nI_1, cki_nI (by omega) (by omega), nI_clamp (by omega)]
  rw [g10.1, upd_e]
  generalize uai M9 199 (205 + 21 * kN D 6 + 1) (nI a) = M10 at *
  rcases s_after (F := F) (j := 13) (lo := a) (hh := 9999) (by omega) (by omega) (by omega) g10 hF with ⟨b, C11, C12, M12, t12, s12, b1, b2, a11, a12, b12, g12⟩ | ⟨C12, M12, a12, b12, bd, fl⟩ | ⟨C11, C12, M12, t12, a11, a12, b12, bd, fl⟩
  rotate_left
  · have b12' : f_X11_numberAfter F M10 197 13 (nI a) 9999 = some (nI a, M12) := b12
    have d1 : D9 M12 (uai M12 199 (205 + 21 * kN D 6 + 2) (nI a)) := D9.uai _
    obtain ⟨T, p1, p2⟩ := b_152 (F := F) (bd.fr d1) (o := 205 + 21 * kN D 6) (by omega) (by omega)
    rw [a12, ob_some, b12', ob_some]
    simp only [lt_eq]
    rw [bd.1.l199, aL2, cki_nI (by omega) (by omega), nI_clamp (by omega), p1, ob_some, bad69 bd (d1.tr p2), if_neg (fun y => y True.intro)]
    exact Or.inr ⟨_, _, rfl, rfl, fl.d9 (d1.tr p2)⟩
  · have b12' : f_X11_numberAfter F M10 197 13 (nI a) 9999 = some (nI a, M12) := b12
    have a12' : f_X6_takeNumber F C11 n (nI a) 9999 = some (-1, C12) := a12
    have d1 : D9 M12 (uai M12 199 (205 + 21 * kN D 6 + 2) (nI a)) := D9.uai _
    obtain ⟨T, p1, p2⟩ := b_152 (F := F) (bd.fr d1) (o := 205 + 21 * kN D 6) (by omega) (by omega)
    rw [a11, ob_some, b12', ob_some]
    simp only [lt_eq]
    rw [if_pos (show ¬ (1 : Int32) = 0 by decide), a12', ob_some]
    simp only [lt_eq]
    rw [bd.1.l199, aL2, cki_nI (by omega) (by omega), nI_clamp (by omega), p1, ob_some, bad69 bd (d1.tr p2), if_neg (fun y => y True.intro)]
    exact Or.inr ⟨_, _, rfl, rfl, fl.d9 (d1.tr p2)⟩
  have b12' : f_X11_numberAfter F M10 197 13 (nI a) 9999 = some (nI b, M12) := b12
  have a12' : f_X6_takeNumber F C11 n (nI a) 9999 = some (nI b, C12) := a12
  rw [a11, ob_some, b12', ob_some]
  simp only [lt_eq]
  rw [if_pos (show ¬ (1 : Int32) = 0 by decide), a12', ob_some]
  simp only [lt_eq]
  rw [g12.gd.1.l199, aL2, cki_nI (by omega) (by omega), nI_clamp (by omega), if_pos (nI_nm (by omega))]
  have g13 := g12.up (o := 205 + 21 * kN D 6 + 2) (byu (by omega) (by9 2 (by omega))) (nI b)
  have hr13 := hr10.up (i := 205 + 21 * kN D 6 + 2) (by omega) (nI b)
  exact (s_152 (a := a) (b := b) g13 hr13 ⟨by rw [upd_n (by omega), upd_n (by omega)]; exact e7, by rw [d_k (by omega), d_k (by omega), k7]; exact hi', by rw [show 206 + 21 * kN D 6 = 205 + 21 * kN D 6 + 1 by omega, upd_n (by omega), upd_e], v2, by rw [show 207 + 21 * kN D 6 = 205 + 21 * kN D 6 + 2 by omega, upd_e], by omega, Or.inl rfl⟩ hF).lo (by omega)
end Hs
