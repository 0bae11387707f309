/-! statement by statement: one side -/
section St1
variable {F : Nat} {f : Nat → Int32} {D : PD} {L n r s : Nat} {C0 C C' : St}
theorem Go1.up (g : Go1 f L n r C0 D C s) {o : Nat} (ho : bey D o) (v : Int32) : Go1 f L n r C0 (upd D o v) C s := g.dr (fun k hk => upd_n (fun e => hk (by rw [e]; exact ho)))
theorem Go1.nm (g : Go1 f L n r C0 D C s) {o : Nat} (ho : ∀ x, x < 6 → bey D (o + x)) (t K : Nat) : Go1 f L n r C0 (nmW D o f t K) C s := g.dr (fun k hk => nmW_n (fun e => hk (by have := ho (k - o) (by omega); rw [show o + (k - o) = k by omega] at this; exact this)))
theorem Go1.d3 (g : Go1 f L n r C0 D C s) : D 3 + 1 = nI (kN D 3 + 1) := by have := g.cn.1.1; rw [this, nI_1]
theorem Go1.d4 (g : Go1 f L n r C0 D C s) : D 4 + 1 = nI (kN D 4 + 1) := by have := g.cn.2.1.1; rw [this, nI_1]
theorem Go1.d6 (g : Go1 f L n r C0 D C s) : D 6 + 1 = nI (kN D 6 + 1) := by have := g.cn.2.2.2.1; rw [this, nI_1]
theorem Go1.ad (g : Go1 f L n r C0 D C s) {q : Nat} {C2 : St} (hq : q = 3 ∨ q = 4) (h : Sm f L n r (upd D q (D q + 1)) C2 s) (fr : ∀ k, ¬ (r ≤ k ∧ k ≤ r + 18) → SameO C C2 k) : Go1 f L n r C0 (upd D q (D q + 1)) C2 s := by
  obtain ⟨k1, ⟨⟨z1, z2, z3⟩, ⟨z4, z5, z6⟩, z7⟩, k3, k4, k5⟩ := g
  have hnr : n < r := k1.2.2.2.1
  refine ⟨h, ⟨⟨(d_cnt (by omega)).mpr z1, (d_cnt (by omega)).mpr z2, by rw [d_k (by omega)]; exact z3⟩, ⟨by rw [upd_n (by omega)]; exact z4, fun k a b => by rw [upd_n (by omega)]; exact z5 k a b, fun k a b => by rw [upd_n (by omega)]; exact z6 k a b⟩, fun x hx => ?_⟩, ((fr n (by omega)).1 502).trans k3, ((fr n (by omega)).1 503).trans k4, fun k hk => (k5 k hk).tr (fr k (by omega))⟩
  rw [d_k (by omega)] at hx
  rw [upd_n (by omega)]
  exact z7 x hx
theorem Go1.ad6 (g : Go1 f L n r C0 D C s) {c : Nat} {C2 : St} (h : Sm f L n r (upd D 6 (D 6 + 1)) C2 s) (fr : ∀ k, ¬ (r ≤ k ∧ k ≤ r + 18) → SameO C C2 k) (hc : kN D 6 = c ∧ c < 6) (ha : D (208 + 21 * c) = 1) : Go1 f L n r C0 (upd D 6 (D 6 + 1)) C2 s := by
  have e6 : D 6 + 1 = nI (c + 1) := by rw [g.d6, hc.1]
  obtain ⟨k1, ⟨⟨z1, z2, z3⟩, ⟨z4, z5, z6⟩, z7⟩, k3, k4, k5⟩ := g
  have hnr : n < r := k1.2.2.2.1
  refine ⟨h, ⟨⟨(d_cnt (by omega)).mpr z1, (d_cnt (by omega)).mpr z2, by rw [d_k (by omega)]; exact z3⟩, ⟨by rw [upd_n (by omega)]; exact z4, fun k a b => by rw [upd_n (by omega)]; exact z5 k a b, fun k a b => by rw [upd_n (by omega)]; exact z6 k a b⟩, fun x hx => ?_⟩, ((fr n (by omega)).1 502).trans k3, ((fr n (by omega)).1 503).trans k4, fun k hk => (k5 k hk).tr (fr k (by omega))⟩
  rw [e6, (isCnt_nI (b := 6) (upd_e _ _ _) (by omega) (by omega)).2] at hx
  rw [upd_n (by omega)]
  by_cases y : x = c
  · rw [y]; exact ha
  · exact z7 x (by omega)
/-! classes -/
theorem p_en3 {w : Int64} {v0 v1 v2 : Int32} {K t c : Nat} (g : Go1 f L n r C0 D C s) (hc : kN D 3 = c ∧ c < 8) (hv : D (11 + 9 * c) = v0 ∧ D (12 + 9 * c) = v1 ∧ D (13 + 9 * c) = v2) (hb : (v0 = -1 ∨ ∃ k, v0 = nI k ∧ 1 ≤ k ∧ k ≤ 999) ∧ (∃ k, v1 = nI k ∧ k ≤ 99) ∧ (v2 = -1 ∨ ∃ k, v2 = nI k ∧ k < c))
    (hn : nmL f t K w) (rows : ∀ x, x < 6 → D (14 + 9 * c + x) = if K ≤ x then 0 else f (t + x)) (hF : 10000 ≤ F) : Out1 f L n r C0 s (f_X6_classStatement_L167 F C n w v0 v1 v2) (pEn f L 3 D s) := by
  unfold f_X6_classStatement_L167 pEn
  rcases g_sy (F := F) g hF with ⟨C1, a1, g1, l1, e1⟩ | ⟨C1, a1, fl, e1⟩
  · obtain ⟨C2, p1, p2, p3, -, -⟩ := e_addClass (F := F) (w := w) (v0 := v0) (v1 := v1) (v2 := v2) (K := K) (t := t) g1.1 (by rw [hc.1]; exact hc.2) (by rw [hc.1]; exact hv) (by rw [hc.1]; exact hb) hn.1 hn.2.1 (by rw [hc.1]; exact rows) hn.2.2.1
    have ad := g1.ad (Or.inl rfl) p2 p3
    rw [g1.d3] at ad
    rw [e1, a1, ob_some]
    simp only [lt_eq]
    rw [if_pos (show ¬ (1 : Int32) = 0 by decide), g1.p501, ob_some, p1, ob_some]
    exact ⟨l1, C2, rfl, ad⟩
  · rw [e1, a1, ob_some]
    simp only [lt_eq]
    rw [if_neg (fun y => y True.intro)]
    exact Out1.er (by omega) rfl fl
theorem p_c2 {w : Int64} {v0 v1 : Int32} {K t c : Nat} (g : Go1 f L n r C0 D C s) (hc : kN D 3 = c ∧ c < 8) (hv : D (11 + 9 * c) = v0 ∧ D (12 + 9 * c) = v1) (hb : (v0 = -1 ∨ ∃ k, v0 = nI k ∧ 1 ≤ k ∧ k ≤ 999) ∧ ∃ k, v1 = nI k ∧ k ≤ 99)
    (hn : nmL f t K w) (rows : ∀ x, x < 6 → D (14 + 9 * c + x) = if K ≤ x then 0 else f (t + x)) (hF : 10000 ≤ F) : Out1 f L n r C0 s (f_X6_classStatement_L129 F C n w v0 v1) (pC2 f L c D s) := by
  obtain ⟨hc, hc8⟩ := hc
  have fin : ∀ (C1 : St) (s1 : Nat) (v2 : Int32), s ≤ s1 → Go1 f L n r C0 D C1 s1 → (v2 = -1 ∨ ∃ k, v2 = nI k ∧ k < c) → Out1 f L n r C0 s (f_X6_classStatement_L167 F C1 n w v0 v1 v2) (pEn f L 3 (upd D (13 + 9 * c) v2) s1) := fun C1 s1 v2 hs g1 h2 =>
    (p_en3 (g1.up (o := 13 + 9 * c) (by unfold bey; omega) v2) ⟨by rw [d_k (by omega)]; exact hc, hc8⟩ ⟨by rw [upd_n (by omega)]; exact hv.1, by rw [upd_n (by omega)]; exact hv.2, upd_e _ _ _⟩ ⟨hb.1, hb.2, h2⟩ hn (fun x hx => by rw [upd_n (by omega)]; exact rows x hx) hF).lo hs
  unfold f_X6_classStatement_L129 pC2
  simp only [lt_eq]
  rw [ck_t (kw_lt g.tk)]
  by_cases z : txE f L s 7 = true
  rotate_left
  · rw [if_pos (fun y => z ((kw_of1 g (by omega)).mp y)), if_neg z]
    exact fin C s (-1) (Nat.le_refl _) g (Or.inl rfl)
  obtain ⟨C2, n1, g2⟩ := g_next (F := F) g hF
  have s2 := (nxE_le (f := f) g.le).1
  have s3 := (nxE_le (f := f) g2.le).1
  rw [if_neg (fun y => y ((kw_of1 g (by omega)).mpr z)), if_pos z, n1, ob_some, g2.p501, ob_some, g2.ru.r602_0, ob_some]
  rcases g_ol (F := F) (p := 0) (by omega) g2 hF with ⟨i, C4, hi, a4, g4, e4⟩ | ⟨c', C4, c0, a4, fl, e4⟩
  · have a4' : f_X6_takeKnown F C2 n (r + 1) = some (nI i, C4) := a4
    have hi' : i < c := by rw [← hc]; exact hi
    rw [e4, a4', ob_some]
    simp only [lt_eq]
    rw [if_pos (nI_nm (by omega))]
    exact fin C4 _ (nI i) (by omega) g4 (Or.inr ⟨i, rfl, hi'⟩)
  · have a4' : f_X6_takeKnown F C2 n (r + 1) = some (-1, C4) := a4
    rw [e4, a4', ob_some]
    simp only [lt_eq]
    rw [if_neg (fun y => y True.intro)]
    exact Out1.er c0 rfl fl
theorem p_c1 {w : Int64} {v0 : Int32} {K t c : Nat} (g : Go1 f L n r C0 D C s) (hc : kN D 3 = c ∧ c < 8) (hv : D (11 + 9 * c) = v0) (hb : v0 = -1 ∨ ∃ k, v0 = nI k ∧ 1 ≤ k ∧ k ≤ 999)
    (hn : nmL f t K w) (rows : ∀ x, x < 6 → D (14 + 9 * c + x) = if K ≤ x then 0 else f (t + x)) (hF : 10000 ≤ F) : Out1 f L n r C0 s (f_X6_classStatement_L95 F C n w v0) (pC1 f L c D s) := by
  obtain ⟨hc, hc8⟩ := hc
  have fin : ∀ (C1 : St) (s1 k : Nat), s ≤ s1 → Go1 f L n r C0 D C1 s1 → k ≤ 99 → Out1 f L n r C0 s (f_X6_classStatement_L129 F C1 n w v0 (nI k)) (pC2 f L c (upd D (12 + 9 * c) (nI k)) s1) := fun C1 s1 k hs g1 hk =>
    (p_c2 (g1.up (o := 12 + 9 * c) (by unfold bey; omega) (nI k)) ⟨by rw [d_k (by omega)]; exact hc, hc8⟩ ⟨by rw [upd_n (by omega)]; exact hv, upd_e _ _ _⟩ ⟨hb, k, rfl, hk⟩ hn (fun x hx => by rw [upd_n (by omega)]; exact rows x hx) hF).lo hs
  unfold f_X6_classStatement_L95 pC1
  rw [ck_t (kw_lt g.tk)]
  by_cases z : txE f L s 6 = true
  rotate_left
  · rw [if_pos (fun y => z ((kw_of1 g (by omega)).mp y)), if_neg z]
    exact fin C s 0 (Nat.le_refl _) g (by omega)
  obtain ⟨C3, n1, g3⟩ := g_next (F := F) g hF
  have s2 := (nxE_le (f := f) g.le).1
  have s3 := (nxE_le (f := f) g3.le).1
  rw [if_neg (fun y => y ((kw_of1 g (by omega)).mpr z)), if_pos z, n1, ob_some]
  rcases g_nu (F := F) (lo := 1) (hh := 99) (by omega) (by omega) g3 hF with ⟨v, C4, v1, v2, a4, g4, e4⟩ | ⟨c', C4, c0, a4, fl, e4⟩
  · have a4' : f_X6_takeNumber F C3 n 1 99 = some (nI v, C4) := a4
    rw [e4, a4', ob_some]
    simp only [lt_eq]
    rw [if_pos (nI_nm (by omega))]
    exact fin C4 _ v (by omega) g4 v2
  · have a4' : f_X6_takeNumber F C3 n 1 99 = some (-1, C4) := a4
    rw [e4, a4', ob_some]
    simp only [lt_eq]
    rw [if_neg (fun y => y True.intro)]
    exact Out1.er c0 rfl fl
theorem p_class (g : Go1 f L n r C0 D C s) (hs : s < L) (hF : 10000 ≤ F) : Out1 f L n r C0 s (f_X6_classStatement F C n) (pCl f L D s) := by
  obtain ⟨c3, c4, c5, c6⟩ := g.cn
  obtain ⟨ru, ⟨q0, q1, q3, q4, q5, q6⟩, -⟩ := g.cr
  have b3 := c3.2
  have full := e_full (F := F) (C := C) (q := r + 1) (c := kN D 3) (k := 8) ru.r400_1 (q3.trans c3.1) (by rw [show r + 1 + 1 = r + 2 by omega]; exact ru.l2) (by omega) b3
  unfold f_X6_classStatement
  rw [g.p501, ob_some, ru.r602_0, ob_some, full, ob_some]
  simp only [lt_eq]
  by_cases z : kN D 3 < 8
  rotate_left
  · have sp : pCl f L D s = pEr 4 s := if_neg z
    rw [sp, if_neg z, if_neg (show ¬ (1 : Int32) = 0 by decide), e_fail g.tk, ob_some]
    simp only [lt_eq]
    rw [ck_t (Or.inl True.intro)]
    exact Out1.er (by omega) rfl (g.fail 4)
  have sp : pCl f L D s = _ := if_pos z
  obtain ⟨C1, n1, g1⟩ := g_next (F := F) g hF
  have s1 := nxE_gt (f := f) hs
  rw [sp, if_pos z, if_pos rfl, n1, ob_some, g1.p501, ob_some, g1.ru.r602_0, ob_some, ob_some, g1.ru.r602_0, ob_some]
  rcases g_ne (F := F) (p := 0) (q := 0) (by omega) (by omega) g1 hF with ⟨w, C2, hn, a2, g2, e2⟩ | ⟨c', C2, c0, a2, fl, e2⟩
  rotate_left
  · have a2' : f_X6_takeNewName F C1 n (r + 1) (r + 1) = some (0, C2) := a2
    rw [e2, a2', ob_some]
    simp only [lt_eq]
    rw [if_pos (show lg_cmp 0 0 = 0 by decide)]
    exact Out1.er c0 rfl fl
  have a2' : f_X6_takeNewName F C1 n (r + 1) (r + 1) = some (w, C2) := a2
  have s2 := (nxE_le (f := f) g1.le).1
  rw [e2, a2', ob_some]
  simp only [lt_eq]
  rw [if_neg hn.2.2.2]
  have fin : ∀ (C1' : St) (s' : Nat) (v0 : Int32), s ≤ s' → Go1 f L n r C0 D C1' s' → (v0 = -1 ∨ ∃ k, v0 = nI k ∧ 1 ≤ k ∧ k ≤ 999) → Out1 f L n r C0 s (f_X6_classStatement_L95 F C1' n w v0) (pC1 f L (kN D 3) (upd (nmW D (14 + 9 * kN D 3) f (nxE f L s) (enE f L (nxE f L s) - nxE f L s)) (11 + 9 * kN D 3) v0) s') := fun C1' s' v0 hs' g' h0 => by
    have gn := g'.nm (o := 14 + 9 * kN D 3) (fun x hx => by unfold bey; omega) (nxE f L s) (enE f L (nxE f L s) - nxE f L s)
    have k3 : kN (nmW D (14 + 9 * kN D 3) f (nxE f L s) (enE f L (nxE f L s) - nxE f L s)) 3 = kN D 3 := kN_e (nmW_n (by omega))
    exact (p_c1 (gn.up (o := 11 + 9 * kN D 3) (by unfold bey; rw [k3]; omega) v0) ⟨by rw [d_k (by omega)]; exact k3, z⟩ (upd_e _ _ _) h0 hn (fun x hx => by rw [upd_n (by omega)]; exact nmW_r hx) hF).lo hs'
  rcases g_tx (F := F) (j := 4) (by omega) g2 hF with ⟨C3, a3, g3, e3⟩ | ⟨C3, a3, fl, e3⟩
  rotate_left
  · rw [e3, a3, ob_some]
    simp only [lt_eq]
    rw [if_neg (fun y => y True.intro)]
    exact Out1.er (by omega) rfl fl
  have s3 := (nxE_le (f := f) g2.le).1
  have s4 := (nxE_le (f := f) g3.le).1
  rw [e3, a3, ob_some]
  simp only [lt_eq]
  rw [if_pos (show ¬ (1 : Int32) = 0 by decide), ck_t (kw_lt g3.tk)]
  by_cases zf : txE f L (nxE f L (nxE f L (nxE f L s))) 5 = true
  · obtain ⟨C4, n3, g4⟩ := g_next (F := F) g3 hF
    rw [if_neg (fun y => y ((kw_of1 g3 (by omega)).mpr zf)), if_pos zf, n3, ob_some]
    exact fin C4 _ (-1) (by omega) g4 (Or.inl rfl)
  rw [if_pos (fun y => zf ((kw_of1 g3 (by omega)).mp y)), if_neg zf]
  rcases g_nu (F := F) (lo := 1) (hh := 999) (by omega) (by omega) g3 hF with ⟨v, C4, v1, v2, a4, g4, e4⟩ | ⟨c', C4, c0, a4, fl, e4⟩
  · have a4' : f_X6_takeNumber F C3 n 1 999 = some (nI v, C4) := a4
    rw [e4, a4', ob_some]
    simp only [lt_eq]
    rw [if_pos (nI_nm (by omega))]
    exact fin C4 _ (nI v) (by omega) g4 (Or.inr ⟨v, rfl, v1, v2⟩)
  · have a4' : f_X6_takeNumber F C3 n 1 999 = some (-1, C4) := a4
    rw [e4, a4', ob_some]
    simp only [lt_eq]
    rw [if_neg (fun y => y True.intro)]
    exact Out1.er c0 rfl fl
/-! users -/
theorem p_user (g : Go1 f L n r C0 D C s) (hs : s < L) (hF : 10000 ≤ F) : Out1 f L n r C0 s (f_X6_userStatement F C n) (pUs f L D s) := by
  obtain ⟨c3, c4, c5, c6⟩ := g.cn
  obtain ⟨ru, ⟨q0, q1, q3, q4, q5, q6⟩, -⟩ := g.cr
  have b3 := c3.2
  have b4 := c4.2
  have full := e_full (F := F) (C := C) (q := r + 6) (c := kN D 4) (k := 10) ru.r400_6 (q4.trans c4.1) (by rw [show r + 6 + 1 = r + 7 by omega]; exact ru.l7) (by omega) b4
  have c26 : f_X6_userStatement_L26 F C n = some (0, flC C n s 4) := by
    unfold f_X6_userStatement_L26
    rw [e_fail g.tk, ob_some]
    simp only [lt_eq]
    rw [ck_t (Or.inl True.intro)]
  unfold f_X6_userStatement
  rw [g.p501, ob_some, ru.r606_0, ob_some, full, ob_some]
  simp only [lt_eq]
  by_cases z : kN D 4 < 10
  rotate_left
  · have sp : pUs f L D s = pEr 4 s := if_neg (fun y => z y.1)
    rw [sp, if_neg z, if_pos (show ¬ (1 : Int32) = 0 by decide), c26]
    exact Out1.er (by omega) rfl (g.fail 4)
  rw [if_pos z, if_neg (fun y => y rfl), g.p501, ob_some, ru.r602_0, ob_some, q3.trans c3.1]
  by_cases z3 : kN D 3 = 0
  · have sp : pUs f L D s = pEr 4 s := if_neg (fun y => y.2 z3)
    rw [sp, z3, if_neg (fun y => y rfl), c26]
    exact Out1.er (by omega) rfl (g.fail 4)
  have sp : pUs f L D s = _ := if_pos ⟨z, z3⟩
  obtain ⟨C1, n1, g1⟩ := g_next (F := F) g hF
  have s1 := nxE_gt (f := f) hs
  rw [sp, if_pos (show ¬ nI (kN D 3) = (0 : Int32) from fun y => z3 ((nI_eq (b := 0) (by omega) (by omega)).mp y)), n1, ob_some, g1.p501, ob_some, g1.ru.r606_0, ob_some, ob_some, g1.ru.r609_0, ob_some]
  rcases g_ne (F := F) (p := 1) (q := 2) (by omega) (by omega) g1 hF with ⟨w, C2, hn, a2, g2, e2⟩ | ⟨c', C2, c0, a2, fl, e2⟩
  rotate_left
  · have a2' : f_X6_takeNewName F C1 n (r + 6) (r + 10) = some (0, C2) := a2
    rw [e2, a2', ob_some]
    simp only [lt_eq]
    rw [if_pos (show lg_cmp 0 0 = 0 by decide)]
    exact Out1.er c0 rfl fl
  have a2' : f_X6_takeNewName F C1 n (r + 6) (r + 10) = some (w, C2) := a2
  have s2 := (nxE_le (f := f) g1.le).1
  rw [e2, a2', ob_some]
  simp only [lt_eq]
  rw [if_neg hn.2.2.2]
  rcases g_tx (F := F) (j := 3) (by omega) g2 hF with ⟨C3, a3, g3, e3⟩ | ⟨C3, a3, fl, e3⟩
  rotate_left
  · rw [e3, a3, ob_some]
    simp only [lt_eq]
    rw [if_neg (fun y => y True.intro)]
    exact Out1.er (by omega) rfl fl
  have s3 := (nxE_le (f := f) g2.le).1
  rw [e3, a3, ob_some]
  simp only [lt_eq]
  rw [if_pos (show ¬ (1 : Int32) = 0 by decide), g3.p501, ob_some, g3.ru.r602_0, ob_some]
  rcases g_ol (F := F) (p := 0) (by omega) g3 hF with ⟨i, C4, hi, a4, g4, e4⟩ | ⟨c', C4, c0, a4, fl, e4⟩
  rotate_left
  · have a4' : f_X6_takeKnown F C3 n (r + 1) = some (-1, C4) := a4
    rw [e4, a4', ob_some]
    simp only [lt_eq]
    rw [if_pos True.intro]
    exact Out1.er c0 rfl fl
  have a4' : f_X6_takeKnown F C3 n (r + 1) = some (nI i, C4) := a4
  have hi' : i < kN D 3 := hi
  have s4 := (nxE_le (f := f) g3.le).1
  rw [e4, a4', ob_some]
  simp only [lt_eq]
  rw [if_neg (nI_nm (by omega))]
  rcases g_tx (F := F) (j := 9) (by omega) g4 hF with ⟨C5, a5, g5, e5⟩ | ⟨C5, a5, fl, e5⟩
  rotate_left
  · rw [e5, a5, ob_some]
    simp only [lt_eq]
    rw [if_neg (fun y => y True.intro)]
    exact Out1.er (by omega) rfl fl
  have s5 := (nxE_le (f := f) g4.le).1
  rw [e5, a5, ob_some]
  simp only [lt_eq]
  rw [if_pos (show ¬ (1 : Int32) = 0 by decide)]
  rcases g_nu (F := F) (lo := 1) (hh := 99999) (by omega) (by omega) g5 hF with ⟨v, C6, v1, v2, a6, g6, e6⟩ | ⟨c', C6, c0, a6, fl, e6⟩
  rotate_left
  · have a6' : f_X6_takeNumber F C5 n 1 99999 = some (-1, C6) := a6
    rw [e6, a6', ob_some]
    simp only [lt_eq]
    rw [if_pos True.intro]
    exact Out1.er c0 rfl fl
  have a6' : f_X6_takeNumber F C5 n 1 99999 = some (nI v, C6) := a6
  have s6 := (nxE_le (f := f) g5.le).1
  rw [e6, a6', ob_some]
  simp only [lt_eq]
  rw [if_neg (nI_nm (by omega))]
  have gn := g6.nm (o := 85 + 8 * kN D 4) (fun x hx => by unfold bey; omega) (nxE f L s) (enE f L (nxE f L s) - nxE f L s)
  generalize hN : nmW D (85 + 8 * kN D 4) f (nxE f L s) (enE f L (nxE f L s) - nxE f L s) = N at *
  have kN3 : kN N 3 = kN D 3 := by rw [← hN]; exact kN_e (nmW_n (by omega))
  have kN4 : kN N 4 = kN D 4 := by rw [← hN]; exact kN_e (nmW_n (by omega))
  have rw6 : ∀ x, x < 6 → N (85 + 8 * kN D 4 + x) = if enE f L (nxE f L s) - nxE f L s ≤ x then 0 else f (nxE f L s + x) := fun x hx => by rw [← hN]; exact nmW_r hx
  have ga := gn.up (o := 83 + 8 * kN D 4) (by unfold bey; rw [kN4]; omega) (nI i)
  have gb := ga.up (o := 84 + 8 * kN D 4) (by unfold bey; rw [d_k (by omega), d_k (by omega), d_k (by omega), d_k (by omega), kN4]; omega) (nI v)
  have k3 : kN (upd (upd N (83 + 8 * kN D 4) (nI i)) (84 + 8 * kN D 4) (nI v)) 3 = kN D 3 := by rw [d_k (by omega), d_k (by omega), kN3]
  have k4 : kN (upd (upd N (83 + 8 * kN D 4) (nI i)) (84 + 8 * kN D 4) (nI v)) 4 = kN D 4 := by rw [d_k (by omega), d_k (by omega), kN4]
  have r0 : upd (upd N (83 + 8 * kN D 4) (nI i)) (84 + 8 * kN D 4) (nI v) (83 + 8 * kN D 4) = nI i := by rw [upd_n (by omega), upd_e]
  have r1 : upd (upd N (83 + 8 * kN D 4) (nI i)) (84 + 8 * kN D 4) (nI v) (84 + 8 * kN D 4) = nI v := upd_e _ _ _
  have r2 : ∀ x, x < 6 → upd (upd N (83 + 8 * kN D 4) (nI i)) (84 + 8 * kN D 4) (nI v) (85 + 8 * kN D 4 + x) = if enE f L (nxE f L s) - nxE f L s ≤ x then 0 else f (nxE f L s + x) := fun x hx => by rw [upd_n (by omega), upd_n (by omega)]; exact rw6 x hx
  generalize upd (upd N (83 + 8 * kN D 4) (nI i)) (84 + 8 * kN D 4) (nI v) = D9 at *
  unfold pEn
  rcases g_sy (F := F) gb hF with ⟨C7, a7, g7, l7, e7⟩ | ⟨C7, a7, fl, e7⟩
  · obtain ⟨C8, p1, p2, p3, -, -⟩ := e_addUser (F := F) (w := w) (cls := i) (q := v) (K := enE f L (nxE f L s) - nxE f L s) (t := nxE f L s) g7.1 (by rw [k4]; exact z) (by rw [k4, k3]; exact ⟨r0, hi'⟩) (by rw [k4]; exact ⟨r1, v1, v2⟩) hn.1 hn.2.1 (by rw [k4]; exact r2) hn.2.2.1
    have ad := g7.ad (Or.inr rfl) p2 p3
    rw [g7.d4] at ad
    rw [e7, a7, ob_some]
    simp only [lt_eq]
    rw [if_pos (show ¬ (1 : Int32) = 0 by decide), g7.p501, ob_some, p1, ob_some]
    exact ⟨by omega, C8, rfl, ad⟩
  · rw [e7, a7, ob_some]
    simp only [lt_eq]
    rw [if_neg (fun y => y True.intro)]
    exact Out1.er (by omega) rfl fl
end St1
