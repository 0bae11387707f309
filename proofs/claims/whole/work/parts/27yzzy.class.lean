/-! a class's statement: both sides -/
section Cs
variable {F : Nat} {f D : Nat → Int32} {L n r s : Nat} {C0 M0 C M C' M' : St}
theorem Out.lo {t : Nat} {a : Option (Int32 × St)} {b : Option St} (h : Out f L n r C0 M0 t a b) (hs : s ≤ t) : Out f L n r C0 M0 s a b := by
  rcases h with ⟨D', C', M', s', h1, h2⟩ | h
  · exact Or.inl ⟨D', C', M', s', by omega, h2⟩
  · exact Or.inr h
theorem w_goOn (g : GdM f L s M) {j : Nat} (hj : j < 15) (z : isTx f L s j) {T : St} (e : f_X11_goOn F M 197 = some T) (hF : 10000 ≤ F) : f_X11_word F M 197 j = some T := by
  unfold f_X11_word f_X11_word_L13
  rw [g_isText g hj (by omega), ob_some]
  simp only [lt_eq]
  rw [pI_t z, if_pos (show ¬ (1 : Int32) = 0 by decide), e, ob_some]
theorem Go.tk (g : Go f L n r C0 M0 D C M s) : TokC f L C n s := g.2.1.2.2.2.2.2.2.1
theorem s_cls3 {w : Int64} {v0 v1 v2 : Int32} {K t c : Nat} (g : Go f L n r C0 M0 D C M s) (hc : kN D 3 = c ∧ c < 8) (hv : D (11 + 9 * c) = v0 ∧ D (12 + 9 * c) = v1 ∧ D (13 + 9 * c) = v2) (hb : (v0 = -1 ∨ ∃ k, v0 = nI k ∧ 1 ≤ k ∧ k ≤ 999) ∧ (∃ k, v1 = nI k ∧ k ≤ 99) ∧ (v2 = -1 ∨ ∃ k, v2 = nI k ∧ k < c))
    (hK : 1 ≤ K ∧ K ≤ 6) (lets : ∀ k, k < K → letB (f (t + k))) (rows : ∀ x, x < 6 → D (14 + 9 * c + x) = if K ≤ x then 0 else f (t + x)) (hw : w = lN (wv (fun k => f (t + k)) K)) (hF : 10000 ≤ F) :
    Out f L n r C0 M0 s (f_X6_classStatement_L167 F C n w v0 v1 v2) (Option.bind (f_X11_parseClass_L161 F M 197) fun T => f_X11_parseStatement_L69 F T 197) := by
  rw [cl_161 g.gd.1 g.gd.2.2.2.2, ob_some, g.1]
  unfold f_X6_classStatement_L167
  rcases s_tail (F := F) g 3 (D 3 + 1) hF with ⟨C9, T9, M9, a9, b9, g9, gd9, e9, m9, mf9, lt9⟩ | ⟨C9, M9, a9, b9, fl⟩
  rotate_left
  · rw [a9, ob_some, b9]
    simp only [lt_eq]
    rw [if_neg (fun y => y True.intro)]
    exact Or.inr ⟨_, _, rfl, rfl, fl⟩
  have e09 := g9.1
  obtain ⟨C10, p1, p2, p3, p4, p5⟩ := e_addClass (F := F) (w := w) (v0 := v0) (v1 := v1) (v2 := v2) (K := K) (t := t) g9.2.1 (by rw [e09, hc.1]; exact hc.2) (by rw [e09, hc.1]; exact hv) (by rw [e09, hc.1]; exact hb) hK lets (by rw [e09, hc.1]; exact rows) hw
  have fin := s_add (q := 3) g9 p2 p3 e9 gd9 m9 mf9 (by omega)
  rw [a9, ob_some, b9]
  simp only [lt_eq]
  rw [if_pos (show ¬ (1 : Int32) = 0 by decide), g9.p501, ob_some, p1, ob_some]
  exact Or.inl ⟨_, _, _, _, lt9, rfl, rfl, fin⟩
theorem s_cls2 {w : Int64} {v0 v1 : Int32} {K t c : Nat} (g : Go f L n r C0 M0 D C M s) (hc : kN D 3 = c ∧ c < 8) (hv : D (11 + 9 * c) = v0 ∧ D (12 + 9 * c) = v1) (hb : (v0 = -1 ∨ ∃ k, v0 = nI k ∧ 1 ≤ k ∧ k ≤ 999) ∧ ∃ k, v1 = nI k ∧ k ≤ 99)
    (hK : 1 ≤ K ∧ K ≤ 6) (lets : ∀ k, k < K → letB (f (t + k))) (rows : ∀ x, x < 6 → D (14 + 9 * c + x) = if K ≤ x then 0 else f (t + x)) (hw : w = lN (wv (fun k => f (t + k)) K)) (hF : 10000 ≤ F) :
    Out f L n r C0 M0 s (f_X6_classStatement_L129 F C n w v0 v1) (Option.bind (f_X11_parseClass_L126 F M 197 (nI (11 + 9 * c))) fun T => f_X11_parseStatement_L69 F T 197) := by
  obtain ⟨hc, hc8⟩ := hc
  unfold f_X6_classStatement_L129 f_X11_parseClass_L126
  rw [g.gd.2.2.2.2, ob_some, g.gd.1.l199, aL2, cki_nI (by omega) (by omega), nI_clamp (by omega)]
  have g1 := g.up (o := 11 + 9 * c + 2) (by unfold bey; omega) (-1)
  generalize uai M 199 (11 + 9 * c + 2) (-1) = M1 at *
  simp only [lt_eq]
  rw [ck_t (kw_lt g1.tk), g_isText g1.gd (by omega) (by omega), ob_some]
  simp only [lt_eq]
  by_cases z : isTx f L s 7
  rotate_left
  · rw [if_pos (fun y => z ((kw_of g1 (by omega)).mp y)), pI_f z, if_pos rfl]
    exact s_cls3 g1 ⟨by rw [d_k (by omega)]; exact hc, hc8⟩ ⟨by rw [upd_n (by omega)]; exact hv.1, by rw [upd_n (by omega)]; exact hv.2, by rw [show 13 + 9 * c = 11 + 9 * c + 2 by omega, upd_e]⟩ ⟨hb.1, hb.2, Or.inl rfl⟩ hK lets (fun x hx => by rw [upd_n (by omega)]; exact rows x hx) hw hF
  obtain ⟨C2, M2, n1, n2, g2⟩ := s_next (F := F) g1 hF
  rw [if_neg (fun y => y ((kw_of g1 (by omega)).mpr z)), pI_t z, if_neg (show ¬ (1 : Int32) = 0 by decide), n1, n2, ob_some, ob_some, g2.p501, ob_some, g2.ru.r602_0, ob_some, g2.gd.2.2.2.2, ob_some]
  have s2 := (nx_le (f := f) g1.le).1
  generalize nxK f L s = t2 at *
  rcases s_old (F := F) (p := 0) (by omega) g2 hF with ⟨i, C4, M4, hi, a4, b4', g4⟩ | ⟨v, C4, M4, a4, b4', bd, fl⟩
  rotate_left
  · have a4' : f_X6_takeKnown F C2 n (r + 1) = some (-1, C4) := a4
    have b4'' : f_X11_oldName F M2 197 0 = some (v, M4) := b4'
    have d1 : D9 M4 (uai M4 199 (11 + 9 * c + 2) v) := D9.uai _
    have b1 := bd.fr d1
    have d2 := d1.tr (D9.uai (k := 3) (ai (uai M4 199 (11 + 9 * c + 2) v) 199 3 + 1))
    rw [a4', ob_some, b4'', ob_some]
    simp only [lt_eq]
    rw [bd.1.l199, cki_nI (by omega) (by omega), cl_161 b1.1 b1.2.2.2.2, ob_some, bad69 bd d2, if_neg (fun y => y True.intro)]
    exact Or.inr ⟨_, _, rfl, rfl, fl.d9 d2⟩
  have a4' : f_X6_takeKnown F C2 n (r + 1) = some (nI i, C4) := a4
  have b4'' : f_X11_oldName F M2 197 0 = some (nI i, M4) := b4'
  have hi' : i < c := by rw [d_k (by omega)] at hi; rw [← hc]; exact hi
  rw [a4', ob_some, b4'', ob_some]
  simp only [lt_eq]
  rw [g4.gd.1.l199, cki_nI (by omega) (by omega), if_pos (nI_nm (by omega))]
  have s4 := (nx_le (f := f) g2.le).1
  have g5 := g4.up (o := 11 + 9 * c + 2) (by unfold bey; rw [d_k (by omega)]; omega) (nI i)
  exact (s_cls3 g5 ⟨by rw [d_k (by omega), d_k (by omega)]; exact hc, hc8⟩ ⟨by rw [upd_n (by omega), upd_n (by omega)]; exact hv.1, by rw [upd_n (by omega), upd_n (by omega)]; exact hv.2, by rw [show 13 + 9 * c = 11 + 9 * c + 2 by omega, upd_e]⟩ ⟨hb.1, hb.2, Or.inr ⟨i, rfl, hi'⟩⟩ hK lets (fun x hx => by rw [upd_n (by omega), upd_n (by omega)]; exact rows x hx) hw hF).lo (by omega)
theorem s_cls1 {w : Int64} {v0 : Int32} {K t c : Nat} (g : Go f L n r C0 M0 D C M s) (hc : kN D 3 = c ∧ c < 8) (hb : v0 = -1 ∨ ∃ k, v0 = nI k ∧ 1 ≤ k ∧ k ≤ 999)
    (hK : 1 ≤ K ∧ K ≤ 6) (lets : ∀ k, k < K → letB (f (t + k))) (rows : ∀ x, x < 6 → D (14 + 9 * c + x) = if K ≤ x then 0 else f (t + x)) (hw : w = lN (wv (fun k => f (t + k)) K)) (hF : 10000 ≤ F) :
    Out f L n r C0 M0 s (f_X6_classStatement_L95 F C n w v0) (Option.bind (f_X11_parseClass_L90 F M 197 (nI (11 + 9 * c)) v0 (nI (11 + 9 * c)) 199) fun T => f_X11_parseStatement_L69 F T 197) := by
  obtain ⟨hc, hc8⟩ := hc
  unfold f_X6_classStatement_L95 f_X11_parseClass_L90
  have g1 := g.up (o := 11 + 9 * c) (by unfold bey; omega) v0
  have g2 := g1.up (o := 11 + 9 * c + 1) (by unfold bey; rw [d_k (by omega)]; omega) 0
  rw [g.gd.1.l199, cki_nI (by omega) (by omega), nI_clamp (by omega)]
  simp only [lt_eq]
  rw [g1.gd.2.2.2.2, ob_some, g1.gd.1.l199, nI_1, cki_nI (by omega) (by omega), nI_clamp (by omega)]
  generalize uai (uai M 199 (11 + 9 * c) v0) 199 (11 + 9 * c + 1) 0 = M1 at *
  rw [ck_t (kw_lt g1.tk), g_isText g2.gd (by omega) (by omega), ob_some]
  simp only [lt_eq]
  by_cases z : isTx f L s 6
  rotate_left
  · rw [if_pos (fun y => z ((kw_of g1 (by omega)).mp y)), pI_f z, if_pos rfl]
    exact s_cls2 g2 ⟨by rw [d_k (by omega), d_k (by omega)]; exact hc, hc8⟩ ⟨by rw [upd_n (by omega), upd_e], by rw [show 12 + 9 * c = 11 + 9 * c + 1 by omega, upd_e]⟩ ⟨hb, 0, rfl, by omega⟩ hK lets (fun x hx => by rw [upd_n (by omega), upd_n (by omega)]; exact rows x hx) hw hF
  obtain ⟨C3, M3, n1, n2, g3⟩ := s_next (F := F) g2 hF
  unfold f_X11_numberAfter
  rw [if_neg (fun y => y ((kw_of g1 (by omega)).mpr z)), pI_t z, if_neg (show ¬ (1 : Int32) = 0 by decide), n1, ob_some, g2.gd.2.2.2.2, ob_some, w_goOn g2.gd (by omega) z n2 hF, ob_some]
  have s3 := (nx_le (f := f) g2.le).1
  generalize nxK f L s = t3 at *
  rcases s_num (F := F) (lo := 1) (hh := 99) (by omega) (by omega) g3 hF with ⟨v, C4, M4, v1, v2, a4, b4, g4⟩ | ⟨C4, M4, a4, b4, bd, fl⟩
  rotate_left
  · have a4' : f_X6_takeNumber F C3 n 1 99 = some (-1, C4) := a4
    have b4' : f_X11_number F M3 197 1 99 = some (1, M4) := b4
    have d1 : D9 M4 (uai M4 199 (11 + 9 * c + 1) 1) := D9.uai _
    obtain ⟨T, p1, p2⟩ := b_126 (F := F) (bd.fr d1) (o := 11 + 9 * c) (by omega) (by omega)
    rw [a4', ob_some, b4', ob_some]
    simp only [lt_eq]
    rw [ob_some]
    simp only [lt_eq]
    rw [bd.1.l199, cki_nI (by omega) (by omega), p1, ob_some, bad69 bd (d1.tr p2), if_neg (fun y => y True.intro)]
    exact Or.inr ⟨_, _, rfl, rfl, fl.d9 (d1.tr p2)⟩
  have a4' : f_X6_takeNumber F C3 n 1 99 = some (nI v, C4) := a4
  have b4' : f_X11_number F M3 197 1 99 = some (nI v, M4) := b4
  rw [a4', ob_some, b4', ob_some]
  simp only [lt_eq]
  rw [ob_some]
  simp only [lt_eq]
  rw [g4.gd.1.l199, cki_nI (by omega) (by omega), if_pos (nI_nm (by omega))]
  have s4 := (nx_le (f := f) g3.le).1
  have g5 := g4.up (o := 11 + 9 * c + 1) (by unfold bey; rw [d_k (by omega), d_k (by omega)]; omega) (nI v)
  exact (s_cls2 g5 ⟨by rw [d_k (by omega), d_k (by omega), d_k (by omega)]; exact hc, hc8⟩ ⟨by rw [upd_n (by omega), upd_n (by omega), upd_e], by rw [show 12 + 9 * c = 11 + 9 * c + 1 by omega, upd_e]⟩ ⟨hb, v, rfl, v2⟩ hK lets (fun x hx => by rw [upd_n (by omega), upd_n (by omega), upd_n (by omega)]; exact rows x hx) hw hF).lo (by omega)
theorem s_class (g : Go f L n r C0 M0 D C M s) (hs : s < L) (hF : 10000 ≤ F) : Out f L n r C0 M0 s (f_X6_classStatement F C n) (Option.bind (f_X11_parseClass F M 197) fun T => f_X11_parseStatement_L69 F T 197) := by
  have gd := g.gd
  obtain ⟨c3, c4, c5, c6⟩ := g.cn
  obtain ⟨ru, ⟨q0, q1, q3, q4, q5, q6⟩, -⟩ := g.cr
  have b3 := c3.2
  have full := e_full (F := F) (C := C) (q := r + 1) (c := kN D 3) (k := 8) ru.r400_1 (q3.trans c3.1) (by rw [show r + 1 + 1 = r + 2 by omega]; exact ru.l2) (by omega) b3
  have f4 := g.fail (c := 4) (by decide) (Mf.rf _)
  unfold f_X6_classStatement f_X11_parseClass
  rw [g.p501, ob_some, ru.r602_0, ob_some, full, ob_some]
  simp only [lt_eq]
  rw [gd.2.2.2.2, ob_some, gd.1.l199, cL3 (by omega) (by omega), kL3, g.1, c3.1]
  by_cases z : kN D 3 < 8
  rotate_left
  · rw [if_neg z, if_neg (show ¬ (1 : Int32) = 0 by decide), if_pos (show (8 : Int32) ≤ nI (kN D 3) from nI_le (a := 8) (by omega) (by omega)), e_fail g.tk, ob_some]
    simp only [lt_eq]
    unfold f_X11_parseClass_L17
    rw [ck_t (Or.inl True.intro), g_begins0 gd, ob_some]
    simp only [lt_eq]
    rw [if_neg (fun y => y True.intro), ob_some]
    exact Or.inr ⟨_, _, rfl, b_69 f4.1, f4.2⟩
  obtain ⟨C1, M1, n1, n2, g1⟩ := s_next (F := F) g hF
  have s1 := nx_gt (f := f) hs
  generalize nxK f L s = t1 at *
  rw [if_pos z, if_pos rfl, if_neg (show ¬ (8 : Int32) ≤ nI (kN D 3) from nI_ge (b := 8) z (by omega)), n1, ob_some, g1.p501, ob_some, g1.ru.r602_0, ob_some, ob_some, g1.ru.r602_0, ob_some]
  unfold f_X11_parseClass_L17
  rw [g_begins gd n2 g1.gd, ob_some]
  simp only [lt_eq]
  rw [if_pos (show ¬ (1 : Int32) = 0 by decide), g1.gd.2.2.2.2, ob_some, g1.gd.1.l199, cL3 (by omega) (by omega), kL3, g1.1, c3.1, mL9, La11, aL3]
  rcases s_new (F := F) (p := 0) (q := 0) (o := 11 + 9 * kN D 3 + 3) (by omega) (by omega) (fun x hx => by unfold bey; omega) g1 hF with ⟨D2, K, w, C2, M2, hK, lets, rows, oth, hw, wne, a2, b2, g2⟩ | ⟨C2, M2, a2, b2, bd, fl⟩
  rotate_left
  · have a2' : f_X6_takeNewName F C1 n (r + 1) (r + 1) = some (0, C2) := a2
    have b2' : f_X11_newName F M1 197 0 0 (nI (11 + 9 * kN D 3 + 3)) = some M2 := b2
    obtain ⟨T, p1, p2⟩ := b_cls (F := F) bd (o := 11 + 9 * kN D 3) (by omega) (by omega)
    simp only [lt_eq] at p1
    rw [a2', ob_some, b2', ob_some, p1, ob_some, bad69 bd p2]
    simp only [lt_eq]
    rw [if_pos (show lg_cmp 0 0 = 0 by decide)]
    exact Or.inr ⟨_, _, rfl, rfl, fl.d9 p2⟩
  have a2' : f_X6_takeNewName F C1 n (r + 1) (r + 1) = some (w, C2) := a2
  have b2' : f_X11_newName F M1 197 0 0 (nI (11 + 9 * kN D 3 + 3)) = some M2 := b2
  rw [a2', ob_some, b2', ob_some]
  simp only [lt_eq]
  rw [if_neg wne]
  have k2 : ∀ k, k < 11 → kN D2 k = kN D k := fun k hk => by unfold kN; rw [oth k (by omega)]
  have rows2 : ∀ x, x < 6 → D2 (14 + 9 * kN D 3 + x) = if K ≤ x then 0 else f (t1 + x) := fun x hx => by
    rw [show 14 + 9 * kN D 3 + x = 11 + 9 * kN D 3 + 3 + x by omega]; exact rows x hx
  have s2 := (nx_le (f := f) g1.le).1
  generalize nxK f L t1 = t2 at *
  rcases s_word (F := F) (j := 4) (by omega) g2 hF with ⟨-, C3, M3, a3, b3', g3⟩ | ⟨C3, M3, a3, b3', bd, fl⟩
  rotate_left
  · obtain ⟨T, p1, p2⟩ := b_67 (F := F) bd (o := 11 + 9 * kN D 3) (by omega) 0 (by omega)
    rw [a3, ob_some, b3', ob_some, b_isText bd (by omega) (by omega), ob_some]
    simp only [lt_eq]
    rw [if_pos True.intro, p1, ob_some, bad69 bd p2, if_neg (fun y => y True.intro)]
    exact Or.inr ⟨_, _, rfl, rfl, fl.d9 p2⟩
  rw [a3, ob_some, b3', ob_some, g_isText g3.gd (by omega) (by omega), ob_some]
  simp only [lt_eq]
  rw [if_pos (show ¬ (1 : Int32) = 0 by decide), ck_t (kw_lt g3.tk)]
  have s3 := (nx_le (f := f) g2.le).1
  generalize nxK f L t2 = t3 at *
  have cc : kN D2 3 = kN D 3 ∧ kN D 3 < 8 := ⟨k2 3 (by omega), z⟩
  by_cases zf : isTx f L t3 5
  · obtain ⟨C4, M4, n3, n4, g4⟩ := s_next (F := F) g3 hF
    rw [if_neg (fun y => y ((kw_of g3 (by omega)).mpr zf)), pI_t zf, if_neg (show ¬ (1 : Int32) = 0 by decide), n3, ob_some, n4, ob_some]
    unfold f_X11_parseClass_L67
    rw [g4.gd.2.2.2.2, ob_some, if_neg (show ¬ (1 : Int32) = 0 by decide), Int32.add_zero]
    have s4 := (nx_le (f := f) g3.le).1
    exact (s_cls1 g4 cc (Or.inl rfl) hK lets rows2 hw hF).lo (by omega)
  rw [if_pos (fun y => zf ((kw_of g3 (by omega)).mp y)), pI_f zf, if_pos rfl]
  unfold f_X11_parseClass_L67
  rw [g3.gd.2.2.2.2, ob_some, if_pos rfl, Int32.add_zero]
  rcases s_num (F := F) (lo := 1) (hh := 999) (by omega) (by omega) g3 hF with ⟨v, C4, M4, v1, v2, a4, b4, g4⟩ | ⟨C4, M4, a4, b4, bd, fl⟩
  rotate_left
  · have a4' : f_X6_takeNumber F C3 n 1 999 = some (-1, C4) := a4
    have b4' : f_X11_number F M3 197 1 999 = some (1, M4) := b4
    obtain ⟨T, p1, p2⟩ := b_90 (F := F) bd (o := 11 + 9 * kN D 3) (by omega) 1 (by omega)
    rw [a4', ob_some, b4', ob_some]
    simp only [lt_eq]
    rw [p1, ob_some, bad69 bd p2, if_neg (fun y => y True.intro)]
    exact Or.inr ⟨_, _, rfl, rfl, fl.d9 p2⟩
  have a4' : f_X6_takeNumber F C3 n 1 999 = some (nI v, C4) := a4
  have b4' : f_X11_number F M3 197 1 999 = some (nI v, M4) := b4
  rw [a4', ob_some, b4', ob_some]
  simp only [lt_eq]
  rw [if_pos (nI_nm (by omega))]
  have s4 := (nx_le (f := f) g3.le).1
  exact (s_cls1 g4 cc (Or.inr ⟨v, rfl, v1, v2⟩) hK lets rows2 hw hF).lo (by omega)
end Cs
