/-! a group's statement: both sides -/
section Gr
variable {F : Nat} {f D : Nat → Int32} {L n r s : Nat} {C0 M0 C M C' M' : St}
theorem b_61' {fu : Nat} (b : BdM f L s M) {o : Nat} (ho : o < 6391) (v : Int32) : ∃ T, f_X11_parseGroup_L61 F (fu + 1) M 197 (nI o) v = some T ∧ D9 M T := by
  obtain ⟨S1, hS1⟩ : ∃ S1, S1 = uai M 199 o v := ⟨_, rfl⟩
  have d1 : D9 M S1 := by rw [hS1]; exact D9.uai _
  have b1 := b.fr d1
  refine ⟨uai S1 199 5 (ai S1 199 5 + 1), ?_, d1.tr (D9.uai _)⟩
  unfold f_X11_parseGroup_L61
  rw [b_isSymbol b, ob_some]
  simp only [lt_eq]
  rw [if_pos True.intro, b.2.2.2.2, ob_some, b.1.l199, Int32.add_zero, cki_nI ho (by omega), nI_clamp (by omega), ← hS1, b1.2.2.2.2, ob_some, b1.1.l199, cL5 (by omega) (by omega), cL5 (by omega) (by omega), kL5]
theorem s_grpE {w : Int64} {q K t c : Nat} (g : Go f L n r C0 M0 D C M s) (hc : kN D 5 = c ∧ c < 6) (hq : D (163 + 7 * c) = nI q ∧ 1 ≤ q ∧ q ≤ 1023)
    (hK : 1 ≤ K ∧ K ≤ 6) (lets : ∀ k, k < K → letB (f (t + k))) (rows : ∀ x, x < 6 → D (164 + 7 * c + x) = if K ≤ x then 0 else f (t + x)) (hw : w = lN (wv (fun k => f (t + k)) K)) (hF : 10000 ≤ F) :
    Out f L n r C0 M0 s (f_X6_groupStatement_L126 F C n w (nI q)) (f_X11_parseStatement_L69 F (uai M 199 5 (D 5 + 1)) 197) := by
  unfold f_X6_groupStatement_L126
  rcases s_tail (F := F) g 5 (D 5 + 1) hF with ⟨C9, T9, M9, a9, b9, g9, gd9, e9, m9, mf9, lt9⟩ | ⟨C9, M9, a9, b9, fl⟩
  rotate_left
  · rw [a9, ob_some, b9]
    simp only [lt_eq]
    rw [if_neg (fun y => y True.intro)]
    exact Or.inr ⟨_, _, rfl, rfl, fl⟩
  have e09 := g9.1
  obtain ⟨C10, p1, p2, p3, p4, p5⟩ := e_addGroup (F := F) (w := w) (q := q) (K := K) (t := t) g9.2.1 (by rw [e09, hc.1]; exact hc.2) (by rw [e09, hc.1]; exact hq) hK lets (by rw [e09, hc.1]; exact rows) hw
  have fin := s_add (q := 5) g9 p2 p3 e9 gd9 m9 mf9 (by omega)
  rw [a9, ob_some, b9]
  simp only [lt_eq]
  rw [if_pos (show ¬ (1 : Int32) = 0 by decide), g9.p501, ob_some, p1, ob_some]
  exact Or.inl ⟨_, _, _, _, lt9, rfl, rfl, fin⟩
theorem s_grpL {w : Int64} {K t c : Nat} (hc : kN D 5 = c ∧ c < 6) (hK : 1 ≤ K ∧ K ≤ 6) (lets : ∀ k, k < K → letB (f (t + k))) (rows : ∀ x, x < 6 → D (164 + 7 * c + x) = if K ≤ x then 0 else f (t + x)) (hw : w = lN (wv (fun k => f (t + k)) K)) (hF : 10000 ≤ F) :
    ∀ d fc fm C M s q i, L - s ≤ d → d < fc → d < fm → i ≤ s → 1 ≤ q → q ≤ 1023 → Go f L n r C0 M0 D C M s →
    Out f L n r C0 M0 s (f_X6_groupStatement_L77 F fc C n w (nI q) (nI i)) (Option.bind (f_X11_parseGroup_L61 F fm M 197 (nI (163 + 7 * c)) (nI q)) fun T => f_X11_parseStatement_L69 F T 197) := by
  intro d
  induction d with
  | zero =>
    intro fc fm C M s q i hd hfc hfm hi q1 q2 g
    obtain ⟨fc, rfl⟩ : ∃ f', fc = f' + 1 := ⟨fc - 1, by omega⟩
    obtain ⟨fm, rfl⟩ : ∃ f', fm = f' + 1 := ⟨fm - 1, by omega⟩
    have hL := g.2.1.2.1.1
    have sl := g.le
    have z : ¬ isSy f L s 44 := fun y => by have := y.1; rw [(tk_0 (f := f) (L := L) (s := s) (by omega)).1] at this; omega
    have g1 := g.up (o := 163 + 7 * c) (by unfold bey; omega) (nI q)
    have e5 : upd D (163 + 7 * c) (nI q) 5 = D 5 := upd_n (by omega)
    unfold f_X6_groupStatement_L77 f_X11_parseGroup_L61
    rw [g_isSy g.gd, ob_some]
    simp only [lt_eq]
    rw [pI_f z, if_pos rfl, g.gd.2.2.2.2, ob_some, g.gd.1.l199, Int32.add_zero, cki_nI (by omega) (by omega), nI_clamp (by omega), g1.gd.2.2.2.2, ob_some, g1.gd.1.l199, cL5 (by omega) (by omega), cL5 (by omega) (by omega), kL5, ob_some, g1.1]
    have fin := s_grpE (F := F) (w := w) (q := q) (K := K) (t := t) (c := c) g1 ⟨by rw [d_k (by omega)]; exact hc.1, hc.2⟩ ⟨upd_e _ _ _, q1, q2⟩ hK lets (fun x hx => by rw [upd_n (by omega)]; exact rows x hx) hw hF
    rw [g.2.1.2.2.2.2.1, ob_some, g.2.1.2.1.2.1]
    by_cases y : L ≤ i
    · rw [if_pos (nI_le y (by omega))]
      exact fin
    · rw [if_neg (nI_ge (by omega) (by omega)), e_isSy g.tk, ob_some]
      simp only [lt_eq]
      rw [pI_f z, if_pos rfl]
      exact fin
  | succ d ih =>
    intro fc fm C M s q i hd hfc hfm hi q1 q2 g
    obtain ⟨fc, rfl⟩ : ∃ f', fc = f' + 1 := ⟨fc - 1, by omega⟩
    obtain ⟨fm, rfl⟩ : ∃ f', fm = f' + 1 := ⟨fm - 1, by omega⟩
    have hL := g.2.1.2.1.1
    have sl := g.le
    have g1 := g.up (o := 163 + 7 * c) (by unfold bey; omega) (nI q)
    have fin := s_grpE (F := F) (w := w) (q := q) (K := K) (t := t) (c := c) g1 ⟨by rw [d_k (by omega)]; exact hc.1, hc.2⟩ ⟨upd_e _ _ _, q1, q2⟩ hK lets (fun x hx => by rw [upd_n (by omega)]; exact rows x hx) hw hF
    unfold f_X6_groupStatement_L77 f_X11_parseGroup_L61
    rw [g_isSy g.gd, ob_some]
    simp only [lt_eq]
    rw [g.2.1.2.2.2.2.1, ob_some, g.2.1.2.1.2.1]
    by_cases z : isSy f L s 44
    rotate_left
    · rw [pI_f z, if_pos rfl, g.gd.2.2.2.2, ob_some, g.gd.1.l199, Int32.add_zero, cki_nI (by omega) (by omega), nI_clamp (by omega), g1.gd.2.2.2.2, ob_some, g1.gd.1.l199, cL5 (by omega) (by omega), cL5 (by omega) (by omega), kL5, ob_some, g1.1]
      by_cases y : L ≤ i
      · rw [if_pos (nI_le y (by omega))]
        exact fin
      · rw [if_neg (nI_ge (by omega) (by omega)), e_isSy g.tk, ob_some]
        simp only [lt_eq]
        rw [pI_f z, if_pos rfl]
        exact fin
    have hs : s < L := by
      by_cases y : s < L
      · exact y
      · have := z.1; rw [(tk_0 (f := f) (L := L) (s := s) (by omega)).1] at this; omega
    obtain ⟨C1, M1, n1, n2, g2⟩ := s_next (F := F) g hF
    rw [if_neg (nI_ge (by omega) (by omega)), e_isSy g.tk, ob_some]
    simp only [lt_eq]
    rw [pI_t z, if_neg (show ¬ (1 : Int32) = 0 by decide), if_neg (show ¬ (1 : Int32) = 0 by decide), n1, ob_some, n2, ob_some]
    have s1 := nx_gt (f := f) hs
    generalize nxK f L s = t1 at *
    rcases s_member (F := F) g2 hF with ⟨v, C3, M3, v1, v2, a3, b3, g3⟩ | ⟨C3, M3, a3, b3, bd, fl⟩
    rotate_left
    · obtain ⟨fm', rfl⟩ : ∃ f', fm = f' + 1 := ⟨fm - 1, by omega⟩
      obtain ⟨T, p1, p2⟩ := b_61' (F := F) (fu := fm') bd (o := 163 + 7 * c) (by omega) (nI q ||| 0)
      rw [a3, ob_some, b3, ob_some]
      simp only [lt_eq]
      rw [p1, ob_some, bad69 bd p2, if_neg (fun y => y True.intro)]
      exact Or.inr ⟨_, _, rfl, rfl, fl.d9 p2⟩
    have s3 := (nx_le (f := f) g2.le).1
    have or1 := Nat.or_lt_two_pow (n := 10) (show q < 2 ^ 10 by omega) (show v < 2 ^ 10 by omega)
    have or2 : q ≤ q ||| v := Nat.left_le_or
    rw [a3, ob_some, b3, ob_some]
    simp only [lt_eq]
    rw [if_pos (show ¬ nI v = (0 : Int32) from fun y => by have := (nI_eq (b := 0) (by omega) (by omega)).mp y; omega), nI_or, nI_1]
    exact (ih fc fm C3 M3 _ (q ||| v) (i + 1) (by omega) (by omega) (by omega) (by omega) (by omega) (by omega) g3).lo (by omega)
theorem s_group (g : Go f L n r C0 M0 D C M s) (hs : s < L) (hF : 10000 ≤ F) : Out f L n r C0 M0 s (f_X6_groupStatement F C n) (Option.bind (f_X11_parseGroup F M 197) fun T => f_X11_parseStatement_L69 F T 197) := by
  have gd := g.gd
  have hL := g.2.1.2.1.1
  obtain ⟨c3, c4, c5, c6⟩ := g.cn
  obtain ⟨ru, ⟨q0, q1, q3, q4, q5, q6⟩, -⟩ := g.cr
  have b4 := c4.2
  have b5 := c5.2
  have full := e_full (F := F) (C := C) (q := r + 10) (c := kN D 5) (k := 6) ru.r400_10 (q5.trans c5.1) (by rw [show r + 10 + 1 = r + 11 by omega]; exact ru.l11) (by omega) b5
  have c26 : f_X6_groupStatement_L26 F C n = some (0, flC C n s 4) := by
    unfold f_X6_groupStatement_L26
    rw [e_fail g.tk, ob_some]
    simp only [lt_eq]
    rw [ck_t (Or.inl True.intro)]
  have m26 : f_X11_parseGroup_L26 F M 197 0 197 = some (flM M s 4) := by
    unfold f_X11_parseGroup_L26
    rw [g_begins0 gd, ob_some]
    simp only [lt_eq]
    rw [if_neg (fun y => y True.intro)]
  have f4 := g.fail (c := 4) (by decide) (Mf.rf _)
  have no : ∀ a b, a = some (0, flC C n s 4) → b = some (flM M s 4) → Out f L n r C0 M0 s a (Option.bind b fun T => f_X11_parseStatement_L69 F T 197) := fun a b e1 e2 => Or.inr ⟨_, _, e1, by rw [e2, ob_some]; exact b_69 f4.1, f4.2⟩
  unfold f_X6_groupStatement f_X11_parseGroup f_X11_parseGroup_L25
  rw [g.p501, ob_some, ru.r609_0, ob_some, full, ob_some]
  simp only [lt_eq]
  rw [gd.2.2.2.2, ob_some, gd.1.l199, cL5 (by omega) (by omega), kL5, g.1, c5.1]
  by_cases z : kN D 5 < 6
  rotate_left
  · rw [if_neg z, if_pos (show ¬ (1 : Int32) = 0 by decide), if_pos (show (6 : Int32) ≤ nI (kN D 5) from nI_le (a := 6) (by omega) (by omega))]
    exact no _ _ c26 m26
  rw [if_pos z, if_neg (fun y => y rfl), if_neg (show ¬ (6 : Int32) ≤ nI (kN D 5) from nI_ge (b := 6) z (by omega)), g.p501, ob_some, ru.r606_0, ob_some, q4, ob_some, gd.1.l199, cL4 (by omega) (by omega), kL4, g.1, c4.1]
  by_cases z3 : kN D 4 = 0
  · rw [z3, if_neg (fun y => y rfl), if_pos (show nI 0 ≤ (0 : Int32) by decide)]
    exact no _ _ c26 m26
  rw [if_pos (show ¬ nI (kN D 4) = (0 : Int32) from fun y => z3 ((nI_eq (b := 0) (by omega) (by omega)).mp y)), if_neg (show ¬ nI (kN D 4) ≤ (0 : Int32) from nI_ge (a := 0) (b := kN D 4) (by omega) (by omega))]
  obtain ⟨C1, M1, n1, n2, g1⟩ := s_next (F := F) g hF
  have s1 := nx_gt (f := f) hs
  generalize nxK f L s = t1 at *
  unfold f_X11_parseGroup_L26
  rw [g_begins gd n2 g1.gd, ob_some]
  simp only [lt_eq]
  rw [if_pos (show ¬ (1 : Int32) = 0 by decide), g1.gd.2.2.2.2, ob_some, g1.gd.1.l199, cL5 (by omega) (by omega), kL5, g1.1, c5.1, mL7, La163, nI_1, n1, ob_some, g1.p501, ob_some, g1.ru.r606_0, ob_some, ob_some, g1.ru.r609_0, ob_some]
  rcases s_new (F := F) (p := 1) (q := 2) (o := 163 + 7 * kN D 5 + 1) (by omega) (by omega) (fun x hx => by unfold bey; omega) g1 hF with ⟨D2, K, w, C2, M2, hK, lets, rows, oth, hw, wne, a2, b2, g2⟩ | ⟨C2, M2, a2, b2, bd, fl⟩
  rotate_left
  · have a2' : f_X6_takeNewName F C1 n (r + 6) (r + 10) = some (0, C2) := a2
    have b2' : f_X11_newName F M1 197 1 2 (nI (163 + 7 * kN D 5 + 1)) = some M2 := b2
    obtain ⟨T, p1, p2⟩ := b_grp (F := F) bd (o := 163 + 7 * kN D 5) (by omega) (by omega)
    simp only [lt_eq] at p1
    rw [a2', ob_some, b2', ob_some, p1, ob_some, bad69 bd p2]
    simp only [lt_eq]
    rw [if_neg (fun y => y (show lg_cmp 0 0 = 0 by decide))]
    exact Or.inr ⟨_, _, rfl, rfl, fl.d9 p2⟩
  have a2' : f_X6_takeNewName F C1 n (r + 6) (r + 10) = some (w, C2) := a2
  have b2' : f_X11_newName F M1 197 1 2 (nI (163 + 7 * kN D 5 + 1)) = some M2 := b2
  rw [a2', ob_some, b2', ob_some]
  simp only [lt_eq]
  rw [if_pos wne]
  have k2 : ∀ k, k < 11 → kN D2 k = kN D k := fun k hk => by unfold kN; rw [oth k (by omega)]
  have rows2 : ∀ x, x < 6 → D2 (164 + 7 * kN D 5 + x) = if K ≤ x then 0 else f (t1 + x) := fun x hx => by
    rw [show 164 + 7 * kN D 5 + x = 163 + 7 * kN D 5 + 1 + x by omega]; exact rows x hx
  have s2 := (nx_le (f := f) g1.le).1
  generalize nxK f L t1 = t2 at *
  rcases s_member (F := F) g2 hF with ⟨v, C3, M3, v1, v2, a3, b3, g3⟩ | ⟨C3, M3, a3, b3, bd, fl⟩
  rotate_left
  · obtain ⟨T, p1, p2⟩ := b_61 (F := F) bd (o := 163 + 7 * kN D 5) (by omega) 0 (by omega)
    rw [a3, ob_some, b3, ob_some]
    simp only [lt_eq]
    rw [p1, ob_some, bad69 bd p2, if_neg (fun y => y True.intro)]
    exact Or.inr ⟨_, _, rfl, rfl, fl.d9 p2⟩
  have s3 := (nx_le (f := f) g2.le).1
  rw [a3, ob_some, b3, ob_some]
  simp only [lt_eq]
  rw [if_pos (show ¬ nI v = (0 : Int32) from fun y => by have := (nI_eq (b := 0) (by omega) (by omega)).mp y; omega)]
  exact (s_grpL (F := F) (D := D2) (w := w) (K := K) (t := t1) (c := kN D 5) ⟨k2 5 (by omega), z⟩ hK lets rows2 hw hF L F F C3 M3 _ v 0 (by omega) (by omega) (by omega) (by omega) v1 v2 g3).lo (by omega)
end Gr
