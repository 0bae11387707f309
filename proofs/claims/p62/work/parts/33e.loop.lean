/-! groups (their errors), holds, the loop: one side -/
section St2
variable {F : Nat} {f : Nat → Int32} {D : PD} {L n r s : Nat} {C0 C C' : St}
theorem g_me (g : Go1 f L n r C0 D C s) (hF : 10000 ≤ F) : (nmE f L s = true → lkE D f L s 1 = none ∧ lkE D f L s 2 = none → f_X6_takeMember F C n = some (0, flC C n s 3)) ∧ (¬ nmE f L s = true → f_X6_takeMember F C n = some (0, flC C n s 1)) := by
  obtain ⟨h1, h2, h3, h4, h5, h6, h7, h8, h9, h10⟩ := g.1
  have nmEq' := e_isNm (F := F) g.h8 h7
  have ru := h8.1
  unfold f_X6_takeMember
  rw [nmEq', ob_some]
  simp only [lt_eq]
  constructor
  · intro a b
    have nm := nm_E.mp a
    have lk1 : f_X5_numberOf F C (r + 6) (sl C 507 n) = some (encO (lkP4 D f L s 1), C) := e_lookP (p := 1) (by omega) h8 h9 g.h8 nm h7 (by omega)
    have lk2 : f_X5_numberOf F C (r + 10) (sl C 507 n) = some (encO (lkP4 D f L s 2), C) := e_lookP (p := 2) (by omega) h8 h9 g.h8 nm h7 (by omega)
    rw [lk_E, b.1] at lk1
    rw [lk_E, b.2] at lk2
    rw [pI_t nm, if_neg (show ¬ (1 : Int32) = 0 by decide), h6, ob_some, ru.r606_0, ob_some, lk1, ob_some]
    simp only [lt_eq]
    unfold f_X6_takeMember_L25
    rw [nmEq', ob_some]
    simp only [lt_eq]
    rw [pI_t nm, if_neg (show ¬ (1 : Int32) = 0 by decide), h6, ob_some, ru.r609_0, ob_some, lk2, ob_some]
    simp only [lt_eq]
    unfold f_X6_takeMember_L51 f_X6_takeMember_L75
    rw [if_neg (fun y => y enc_n), if_neg (fun y => y enc_n), nmEq', ob_some]
    simp only [lt_eq]
    rw [pI_t nm, if_neg (show ¬ (1 : Int32) = 0 by decide), e_fail h7, ob_some]
  · intro a
    have nm : ¬ isNm f L s := fun y => a (nm_E.mpr y)
    rw [pI_f nm, if_pos rfl]
    unfold f_X6_takeMember_L25 f_X6_takeMember_L51 f_X6_takeMember_L75
    rw [nmEq', ob_some]
    simp only [lt_eq]
    rw [pI_f nm, if_pos rfl, if_neg (fun y => y True.intro), if_neg (fun y => y True.intro), nmEq', ob_some]
    simp only [lt_eq]
    rw [pI_f nm, if_pos rfl, e_fail h7, ob_some]
theorem p_group (g : Go1 f L n r C0 D C s) (hs : s < L) (hF : 10000 ≤ F) : Out1 f L n r C0 s (f_X6_groupStatement F C n) (pGr f L D s) := by
  obtain ⟨c3, c4, c5, c6⟩ := g.cn
  obtain ⟨ru, ⟨q0, q1, q3, q4, q5, q6⟩, -⟩ := g.cr
  have b4 := c4.2
  have b5 := c5.2
  have full := e_full (F := F) (C := C) (q := r + 10) (c := kN D 5) (k := 6) ru.r400_10 (q5.trans c5.1) (by rw [show r + 10 + 1 = r + 11 by omega]; exact ru.l11) (by omega) b5
  have c26 : f_X6_groupStatement_L26 F C n = some (0, flC C n s 4) := by
    unfold f_X6_groupStatement_L26
    rw [e_fail g.tk, ob_some]
    simp only [lt_eq]
    rw [ck_t (Or.inl True.intro)]
  unfold f_X6_groupStatement
  rw [g.p501, ob_some, ru.r609_0, ob_some, full, ob_some]
  simp only [lt_eq]
  by_cases z : kN D 5 < 6
  rotate_left
  · have sp : pGr f L D s = pEr 4 s := if_neg (fun y => z y.1)
    rw [sp, if_neg z, if_pos (show ¬ (1 : Int32) = 0 by decide), c26]
    exact Out1.er (by omega) rfl (g.fail 4)
  rw [if_pos z, if_neg (fun y => y rfl), g.p501, ob_some, ru.r606_0, ob_some, q4.trans c4.1]
  by_cases z3 : kN D 4 = 0
  · have sp : pGr f L D s = pEr 4 s := if_neg (fun y => y.2 z3)
    rw [sp, z3, if_neg (fun y => y rfl), c26]
    exact Out1.er (by omega) rfl (g.fail 4)
  have sp : pGr f L D s = _ := if_pos ⟨z, z3⟩
  obtain ⟨C1, n1, g1⟩ := g_next (F := F) g hF
  rw [sp, if_pos (show ¬ nI (kN D 4) = (0 : Int32) from fun y => z3 ((nI_eq (b := 0) (by omega) (by omega)).mp y)), n1, ob_some, g1.p501, ob_some, g1.ru.r606_0, ob_some, ob_some, g1.ru.r609_0, ob_some]
  rcases g_ne (F := F) (p := 1) (q := 2) (by omega) (by omega) g1 hF with ⟨w, C2, hn, a2, g2, e2⟩ | ⟨c', C2, c0, a2, fl, e2⟩
  rotate_left
  · have a2' : f_X6_takeNewName F C1 n (r + 6) (r + 10) = some (0, C2) := a2
    rw [e2, a2', ob_some]
    simp only [lt_eq]
    rw [if_neg (fun y => y (show lg_cmp 0 0 = 0 by decide))]
    exact Out1.er c0 rfl fl
  have a2' : f_X6_takeNewName F C1 n (r + 6) (r + 10) = some (w, C2) := a2
  rw [e2, a2', ob_some]
  simp only [lt_eq]
  rw [if_pos hn.2.2.2]
  have me := g_me (F := F) g2 hF
  by_cases a : nmE f L (nxE f L (nxE f L s)) = true
  · rw [if_pos a]
    by_cases b : lkE D f L (nxE f L (nxE f L s)) 1 = none ∧ lkE D f L (nxE f L (nxE f L s)) 2 = none
    · rw [if_pos b, me.1 a b, ob_some]
      simp only [lt_eq]
      rw [if_neg (fun y => y True.intro)]
      exact Out1.er (by omega) rfl (g2.fail 3)
    · rw [if_neg b]
      trivial
  · rw [if_neg a, me.2 a, ob_some]
    simp only [lt_eq]
    rw [if_neg (fun y => y True.intro)]
    exact Out1.er (by omega) rfl (g2.fail 1)
/-! holds -/
theorem g_wo (g : Go1 f L n r C0 D C s) (hF : 10000 ≤ F) : (woE f L s = true → ∃ w C', enE f L s - s ≤ 10 ∧ (∀ k, k < enE f L s - s → letB (f (s + k))) ∧ w = lN (wv (fun k => f (s + k)) (enE f L s - s)) ∧ ¬ lg_cmp w 0 = 0 ∧ f_X6_takeWord F C n = some (w, C') ∧ Go1 f L n r C0 D C' (nxE f L s)) ∧ (¬ woE f L s = true → f_X6_takeWord F C n = some (0, flC C n s 1)) := by
  have h8 := g.h8
  have hL := g.hi.1
  have kb := kd_le (f := f) (L := L) (s := s)
  obtain ⟨t0, tE, c2, c3, c4, c5, -⟩ := id g.tk
  have k1 : nI (kdK f L s) = (1 : Int32) ↔ kdK f L s = 1 := nI_eq (b := 1) (by omega) (by omega)
  have wo : woE f L s = true ↔ kdK f L s = 1 ∧ enK f L s - s ≤ 10 := by
    unfold woE
    rw [Bool.and_eq_true, beq_iff_eq, decide_eq_true_iff, kd_E, en_E]
  have fC : f_X6_takeWord_L19 F C n = some (0, flC C n s 1) := by
    unfold f_X6_takeWord_L19
    rw [e_fail g.tk, ob_some]
    rfl
  by_cases hk : kdK f L s = 1
  rotate_left
  · refine ⟨fun y => absurd (wo.mp y).1 hk, fun _ => ?_⟩
    unfold f_X6_takeWord
    rw [fC, c4, if_pos (show ¬ nI (kdK f L s) = (1 : Int32) from fun y => hk (k1.mp y))]
  obtain ⟨l1, l2, l3, l4⟩ := tk_let h8 hk
  have lets : ∀ k, k < enK f L s - s → letB (f (s + k)) := fun k h => by
    have := l4 (s + k) (by omega) (by omega)
    rw [← this.2]; exact this.1
  have we : sl C 507 n = wEnc (fun k => f (s + k)) (enK f L s - s) := by
    rw [(c5 hk).1]
    exact wEnc_c (fun k h => (l4 (s + k) (by omega) (by omega)).2)
  by_cases h10 : enK f L s - s ≤ 10
  rotate_left
  · refine ⟨fun y => absurd (wo.mp y).2 h10, fun _ => ?_⟩
    unfold f_X6_takeWord
    rw [fC, c4, if_neg (show ¬ ¬ nI (kdK f L s) = (1 : Int32) from fun y => y (k1.mpr hk)), if_neg]
    rw [we]
    unfold wEnc
    rw [if_neg h10]
    decide
  have wb := wv_b h10 lets
  have we2 : sl C 507 n = lN (wv (fun k => f (s + k)) (enK f L s - s)) := by
    rw [we]; unfold wEnc; rw [if_pos h10]
  have nm1 : ¬ lg_cmp (sl C 507 n) (-1) = 0 := fun y => by
    have := (lg_cmp_eq _ _).mp y
    rw [we2] at this
    exact lN_m1 (by omega) this
  obtain ⟨C1, n1, g1⟩ := g_next (F := F) g hF
  refine ⟨fun _ => ⟨sl C 507 n, C1, ?_, ?_, ?_, fun y => ?_, ?_, g1⟩, fun y => absurd (wo.mpr ⟨hk, h10⟩) y⟩
  · rw [← en_E]; exact h10
  · rw [← en_E]; exact lets
  · rw [← en_E]; exact we2
  · have y' := (lg_cmp_eq _ _).mp y
    obtain ⟨c, hc⟩ : ∃ c, enK f L s - s = c + 1 := ⟨enK f L s - s - 1, by omega⟩
    rw [hc] at we2 wb
    have ge := wv_ge (f := fun k => f (s + k)) (c := c) (fun k h => lets k (by omega))
    have pp : 0 < 27 ^ c := Nat.pow_pos (by omega)
    have := (lN_inj (a := wv (fun k => f (s + k)) (c + 1)) (b := 0) (by omega) (by omega)).mp (by rw [← we2]; exact y')
    omega
  · unfold f_X6_takeWord
    rw [c4, if_neg (show ¬ ¬ nI (kdK f L s) = (1 : Int32) from fun y => y (k1.mpr hk)), if_pos nm1]
    simp only [lt_eq]
    rw [n1, ob_some]
theorem p_ho6 {w w2 : Int64} {v4 : Int32} {K t c u a b k : Nat} (g : Go1 f L n r C0 D C s) (hc : kN D 6 = c ∧ c < 6) (hn : nmL f t K w) (rows : ∀ x, x < 6 → D (220 + 21 * c + x) = if K ≤ x then 0 else f (t + x)) (ha : hoA D c u a b v4) (h8 : D (208 + 21 * c) = 1) (h9 : D (209 + 21 * c) = nI k ∧ k ≤ 10) (hl : ∀ x, x < k → letB (D (210 + 21 * c + x))) (hw2 : w2 = wdN D (210 + 21 * c) k) (hF : 10000 ≤ F) :
    Out1 f L n r C0 s (f_X6_holdStatement_L192 F C n w (nI u) (nI a) v4 w2) (pEn f L 6 D s) := by
  obtain ⟨a1, a2, a3, a4, a5, a6, a7⟩ := ha
  unfold f_X6_holdStatement_L192 pEn
  rcases g_sy (F := F) g hF with ⟨C1, q1, g1, l1, e1⟩ | ⟨C1, q1, fl, e1⟩
  · obtain ⟨C2, p1, p2, p3, -, -⟩ := e_addHold (F := F) (w := w) (w2 := w2) (u := u) (a := a) (b := b) (k := k) (v4 := v4) (K := K) (t := t) g1.1 (by rw [hc.1]; exact hc.2) (by rw [hc.1]; exact ⟨a1, a2⟩) (by rw [hc.1]; exact ⟨a3, a4⟩) (by rw [hc.1]; exact ⟨a5, a6⟩) a7 (by rw [hc.1]; exact h8) (by rw [hc.1]; exact h9) (by rw [hc.1]; exact hl) (by rw [hc.1]; exact hw2) hn.1 hn.2.1 (by rw [hc.1]; exact rows) hn.2.2.1
    have ad := g1.ad6 p2 p3 hc h8
    rw [g1.d6] at ad
    rw [e1, q1, ob_some]
    simp only [lt_eq]
    rw [if_pos (show ¬ (1 : Int32) = 0 by decide), g1.p501, ob_some, p1, ob_some]
    exact ⟨l1, C2, rfl, ad⟩
  · rw [e1, q1, ob_some]
    simp only [lt_eq]
    rw [if_neg (fun y => y True.intro)]
    exact Out1.er (by omega) rfl fl
theorem woW_n {c t K x : Nat} (h : ¬ (209 + 21 * c ≤ x ∧ x < 220 + 21 * c)) : woW D c f t K x = D x := by unfold woW; rw [if_neg (by omega), if_neg (by omega)]
theorem p_h2 {w : Int64} {v4 : Int32} {K t c u a b : Nat} (g : Go1 f L n r C0 D C s) (hc : kN D 6 = c ∧ c < 6) (hn : nmL f t K w) (rows : ∀ x, x < 6 → D (220 + 21 * c + x) = if K ≤ x then 0 else f (t + x)) (ha : hoA D c u a b v4) (hF : 10000 ≤ F) :
    Out1 f L n r C0 s (f_X6_holdStatement_L160 F C n w (nI u) (nI a) v4) (pH2 f L c D s) := by
  obtain ⟨hc, hc6⟩ := hc
  unfold f_X6_holdStatement_L160 pH2
  rw [ck_t (kw_lt g.tk)]
  by_cases z : txE f L s 14 = true
  rotate_left
  · have g1 := g.up (o := 209 + 21 * c) (by unfold bey; omega) 0
    have g2 := g1.up (o := 208 + 21 * c) (by unfold bey; rw [d_k (by omega), d_k (by omega), d_k (by omega), d_k (by omega)]; omega) 1
    rw [if_pos (fun y => z ((kw_of1 g (by omega)).mp y)), if_neg z]
    exact p_ho6 (k := 0) g2 ⟨by rw [d_k (by omega), d_k (by omega)]; exact hc, hc6⟩ hn (fun x hx => by rw [upd_n (by omega), upd_n (by omega)]; exact rows x hx) ⟨by rw [upd_n (by omega), upd_n (by omega)]; exact ha.1, by rw [d_k (by omega), d_k (by omega)]; exact ha.2.1, by rw [upd_n (by omega), upd_n (by omega)]; exact ha.2.2.1, ha.2.2.2.1, by rw [upd_n (by omega), upd_n (by omega)]; exact ha.2.2.2.2.1, ha.2.2.2.2.2⟩ (upd_e _ _ _) ⟨by rw [upd_n (by omega), upd_e]; rfl, by omega⟩ (fun x hx => by omega) rfl hF
  obtain ⟨C1, n1, g1⟩ := g_next (F := F) g hF
  have s1 := (nxE_le (f := f) g.le).1
  have s2 := (nxE_le (f := f) g1.le).1
  rw [if_neg (fun y => y ((kw_of1 g (by omega)).mpr z)), if_pos z, n1, ob_some]
  have wo := g_wo (F := F) g1 hF
  by_cases y : woE f L (nxE f L s) = true
  rotate_left
  · rw [if_neg y, wo.2 y, ob_some]
    simp only [lt_eq]
    rw [if_neg (fun y => y (show lg_cmp 0 0 = 0 by decide))]
    exact Out1.er (by omega) rfl (g1.fail 1)
  obtain ⟨w', C2, k10, lets, hw, wne, a2, g2⟩ := wo.1 y
  rw [if_pos y, a2, ob_some]
  simp only [lt_eq]
  rw [if_pos wne]
  generalize hK : enE f L (nxE f L s) - nxE f L s = K2 at *
  have g3 := g2.dr (D' := woW D c f (nxE f L s) K2) (fun x hx => woW_n (fun e => hx (by unfold bey; omega)))
  have k6 : kN (woW D c f (nxE f L s) K2) 6 = c := by rw [kN_e (woW_n (by omega))]; exact hc
  have g4 := g3.up (o := 208 + 21 * c) (by unfold bey; rw [k6]; omega) 1
  have dl : ∀ x, x < K2 → woW D c f (nxE f L s) K2 (210 + 21 * c + x) = f (nxE f L s + x) := fun x hx => by
    unfold woW
    rw [if_neg (by omega), if_pos (by omega), Nat.add_sub_cancel_left, if_neg (by omega)]
  have e9 : woW D c f (nxE f L s) K2 (209 + 21 * c) = nI K2 := by unfold woW; rw [if_pos rfl]
  exact (p_ho6 (k := K2) g4 ⟨by rw [d_k (by omega)]; exact k6, hc6⟩ hn (fun x hx => by rw [upd_n (by omega), woW_n (by omega)]; exact rows x hx) ⟨by rw [upd_n (by omega), woW_n (by omega)]; exact ha.1, by rw [d_k (by omega), kN_e (woW_n (by omega))]; exact ha.2.1, by rw [upd_n (by omega), woW_n (by omega)]; exact ha.2.2.1, ha.2.2.2.1, by rw [upd_n (by omega), woW_n (by omega)]; exact ha.2.2.2.2.1, ha.2.2.2.2.2⟩ (upd_e _ _ _) ⟨by rw [upd_n (by omega)]; exact e9, k10⟩ (fun x hx => by rw [upd_n (by omega), dl x hx]; exact lets x hx) (by
    rw [d_wd (by omega), hw, wdN_eq (fun k hk => by rw [dl k hk]; exact lets k hk), wv_c (g := fun k => f (nxE f L s + k)) (fun k hk => dl k hk)]) hF).lo (by omega)
theorem p_hold (g : Go1 f L n r C0 D C s) (hs : s < L) (hF : 10000 ≤ F) : Out1 f L n r C0 s (f_X6_holdStatement F C n) (pHo f L D s) := by
  obtain ⟨c3, c4, c5, c6⟩ := g.cn
  obtain ⟨ru, ⟨q0, q1, q3, q4, q5, q6⟩, -⟩ := g.cr
  have b4 := c4.2
  have b6 := c6.2
  have full := e_full (F := F) (C := C) (q := r + 13) (c := kN D 6) (k := 6) ru.r400_13 (q6.trans c6.1) (by rw [show r + 13 + 1 = r + 14 by omega]; exact ru.l14) (by omega) b6
  have c26 : f_X6_holdStatement_L26 F C n = some (0, flC C n s 4) := by
    unfold f_X6_holdStatement_L26
    rw [e_fail g.tk, ob_some]
    simp only [lt_eq]
    rw [ck_t (Or.inl True.intro)]
  unfold f_X6_holdStatement
  rw [g.p501, ob_some, ru.r611_0, ob_some, full, ob_some]
  simp only [lt_eq]
  by_cases z : kN D 6 < 6
  rotate_left
  · have sp : pHo f L D s = pEr 4 s := if_neg (fun y => z y.1)
    rw [sp, if_neg z, if_pos (show ¬ (1 : Int32) = 0 by decide), c26]
    exact Out1.er (by omega) rfl (g.fail 4)
  rw [if_pos z, if_neg (fun y => y rfl), g.p501, ob_some, ru.r606_0, ob_some, q4.trans c4.1]
  by_cases z3 : kN D 4 = 0
  · have sp : pHo f L D s = pEr 4 s := if_neg (fun y => y.2 z3)
    rw [sp, z3, if_neg (fun y => y rfl), c26]
    exact Out1.er (by omega) rfl (g.fail 4)
  have sp : pHo f L D s = _ := if_pos ⟨z, z3⟩
  obtain ⟨C1, n1, g1⟩ := g_next (F := F) g hF
  have s1 := nxE_gt (f := f) hs
  rw [sp, if_pos (show ¬ nI (kN D 4) = (0 : Int32) from fun y => z3 ((nI_eq (b := 0) (by omega) (by omega)).mp y)), n1, ob_some, g1.p501, ob_some, g1.ru.r611_0, ob_some, ob_some, g1.ru.r611_0, ob_some]
  rcases g_ne (F := F) (p := 3) (q := 3) (by omega) (by omega) g1 hF with ⟨w, C2, hn, a2, g2, e2⟩ | ⟨c', C2, c0, a2, fl, e2⟩
  rotate_left
  · have a2' : f_X6_takeNewName F C1 n (r + 13) (r + 13) = some (0, C2) := a2
    rw [e2, a2', ob_some]
    simp only [lt_eq]
    rw [if_pos (show lg_cmp 0 0 = 0 by decide)]
    exact Out1.er c0 rfl fl
  have a2' : f_X6_takeNewName F C1 n (r + 13) (r + 13) = some (w, C2) := a2
  have s2 := (nxE_le (f := f) g1.le).1
  rw [e2, a2', ob_some]
  simp only [lt_eq]
  rw [if_neg hn.2.2.2]
  rcases g_tx (F := F) (j := 8) (by omega) g2 hF with ⟨C3, a3, g3, e3⟩ | ⟨C3, a3, fl, e3⟩
  rotate_left
  · rw [e3, a3, ob_some]
    simp only [lt_eq]
    rw [if_neg (fun y => y True.intro)]
    exact Out1.er (by omega) rfl fl
  have s3 := (nxE_le (f := f) g2.le).1
  rw [e3, a3, ob_some]
  simp only [lt_eq]
  rw [if_pos (show ¬ (1 : Int32) = 0 by decide), g3.p501, ob_some, g3.ru.r606_0, ob_some]
  rcases g_ol (F := F) (p := 1) (by omega) g3 hF with ⟨i, C4, hi, a4, g4, e4⟩ | ⟨c', C4, c0, a4, fl, e4⟩
  rotate_left
  · have a4' : f_X6_takeKnown F C3 n (r + 6) = some (-1, C4) := a4
    rw [e4, a4', ob_some]
    simp only [lt_eq]
    rw [if_neg (fun y => y True.intro)]
    exact Out1.er c0 rfl fl
  have a4' : f_X6_takeKnown F C3 n (r + 6) = some (nI i, C4) := a4
  have hi' : i < kN D 4 := hi
  have s4 := (nxE_le (f := f) g3.le).1
  rw [e4, a4', ob_some]
  simp only [lt_eq]
  rw [if_pos (nI_nm (by omega)), ck_t (kw_lt g4.tk)]
  have fin : ∀ (C1' : St) (s' a b : Nat) (v4 : Int32), s ≤ s' → Go1 f L n r C0 D C1' s' → a ≤ 9999 → b ≤ 20000 → (v4 = nI b ∨ (v4 = 1000000000 ∧ nI b = 20000)) → Out1 f L n r C0 s (f_X6_holdStatement_L160 F C1' n w (nI i) (nI a) v4) (pH2 f L (kN D 6) (upd (upd (upd (nmW D (220 + 21 * kN D 6) f (nxE f L s) (enE f L (nxE f L s) - nxE f L s)) (205 + 21 * kN D 6) (nI i)) (206 + 21 * kN D 6) (nI a)) (207 + 21 * kN D 6) (nI b)) s') := fun C1' s' a b v4 hs' g' ha hb h4 => by
    have gn := g'.nm (o := 220 + 21 * kN D 6) (fun x hx => by unfold bey; omega) (nxE f L s) (enE f L (nxE f L s) - nxE f L s)
    have k6 : kN (nmW D (220 + 21 * kN D 6) f (nxE f L s) (enE f L (nxE f L s) - nxE f L s)) 6 = kN D 6 := kN_e (nmW_n (by omega))
    have k4 : kN (nmW D (220 + 21 * kN D 6) f (nxE f L s) (enE f L (nxE f L s) - nxE f L s)) 4 = kN D 4 := kN_e (nmW_n (by omega))
    have rw6 : ∀ x, x < 6 → nmW D (220 + 21 * kN D 6) f (nxE f L s) (enE f L (nxE f L s) - nxE f L s) (220 + 21 * kN D 6 + x) = if enE f L (nxE f L s) - nxE f L s ≤ x then 0 else f (nxE f L s + x) := fun x hx => nmW_r hx
    generalize nmW D (220 + 21 * kN D 6) f (nxE f L s) (enE f L (nxE f L s) - nxE f L s) = N at *
    have g5 := gn.up (o := 205 + 21 * kN D 6) (by unfold bey; rw [k6]; omega) (nI i)
    have g6 := g5.up (o := 206 + 21 * kN D 6) (by unfold bey; rw [d_k (by omega), d_k (by omega), d_k (by omega), d_k (by omega), k6]; omega) (nI a)
    have g7 := g6.up (o := 207 + 21 * kN D 6) (by unfold bey; rw [d_k (by omega), d_k (by omega), d_k (by omega), d_k (by omega), d_k (by omega), d_k (by omega), d_k (by omega), d_k (by omega), k6]; omega) (nI b)
    exact (p_h2 (a := a) (b := b) g7 ⟨by rw [d_k (by omega), d_k (by omega), d_k (by omega)]; exact k6, z⟩ hn (fun x hx => by rw [upd_n (by omega), upd_n (by omega), upd_n (by omega)]; exact rw6 x hx) ⟨by rw [upd_n (by omega), upd_n (by omega), upd_e], by rw [d_k (by omega), d_k (by omega), d_k (by omega), k4]; exact hi', by rw [upd_n (by omega), upd_e], ha, upd_e _ _ _, hb, h4⟩ hF).lo hs'
  by_cases zf : txE f L (nxE f L (nxE f L (nxE f L (nxE f L s)))) 12 = true
  rotate_left
  · rw [if_pos (fun y => zf ((kw_of1 g4 (by omega)).mp y)), if_neg zf]
    exact fin C4 _ 0 20000 1000000000 (by omega) g4 (by omega) (by omega) (Or.inr ⟨rfl, rfl⟩)
  obtain ⟨C8, n3, g8⟩ := g_next (F := F) g4 hF
  have s8 := (nxE_le (f := f) g4.le).1
  have s9 := (nxE_le (f := f) g8.le).1
  rw [if_neg (fun y => y ((kw_of1 g4 (by omega)).mpr zf)), if_pos zf, n3, ob_some]
  rcases g_nu (F := F) (lo := 0) (hh := 9999) (by omega) (by omega) g8 hF with ⟨a, C9, v1, v2, a9, g9, e9⟩ | ⟨c', C9, c0, a9, fl, e9⟩
  rotate_left
  · have a9' : f_X6_takeNumber F C8 n 0 9999 = some (-1, C9) := a9
    rw [e9, a9', ob_some]
    simp only [lt_eq]
    rw [if_pos True.intro]
    exact Out1.er c0 rfl fl
  have a9' : f_X6_takeNumber F C8 n 0 9999 = some (nI a, C9) := a9
  rw [e9, a9', ob_some]
  simp only [lt_eq]
  rw [if_neg (nI_nm (by omega))]
  rcases g_tx (F := F) (j := 13) (by omega) g9 hF with ⟨C10, a10, g10, e10⟩ | ⟨C10, a10, fl, e10⟩
  rotate_left
  · rw [e10, a10, ob_some]
    simp only [lt_eq]
    rw [if_neg (fun y => y True.intro)]
    exact Out1.er (by omega) rfl fl
  have s10 := (nxE_le (f := f) g9.le).1
  have s11 := (nxE_le (f := f) g10.le).1
  rw [e10, a10, ob_some]
  simp only [lt_eq]
  rw [if_pos (show ¬ (1 : Int32) = 0 by decide)]
  rcases g_nu (F := F) (lo := a) (hh := 9999) (by omega) (by omega) g10 hF with ⟨b, C11, b1, b2, a11, g11, e11⟩ | ⟨c', C11, c0, a11, fl, e11⟩
  · have a11' : f_X6_takeNumber F C10 n (nI a) 9999 = some (nI b, C11) := a11
    rw [e11, a11', ob_some]
    simp only [lt_eq]
    rw [if_pos (nI_nm (by omega))]
    exact fin C11 _ a b (nI b) (by omega) g11 v2 (by omega) (Or.inl rfl)
  · have a11' : f_X6_takeNumber F C10 n (nI a) 9999 = some (-1, C11) := a11
    rw [e11, a11', ob_some]
    simp only [lt_eq]
    rw [if_neg (fun y => y True.intro)]
    exact Out1.er c0 rfl fl
/-! the loop -/
def Rd1 (f : Nat → Int32) (L n r : Nat) (C0 : St) (a : Option (Int32 × St)) : PR → Prop
  | none => True
  | some (.inl (c, t)) => ¬ c = 0 ∧ ∃ C', a = some (0, C') ∧ Fl1 n C0 C' c t
  | some (.inr (s', D')) => ∃ C', a = some (1, C') ∧ Go1 f L n r C0 D' C' s'
theorem p_loop (hF : 10000 ≤ F) : ∀ d fc C s D i, L - s ≤ d → d + 1 < fc → i ≤ s → Go1 f L n r C0 D C s → Rd1 f L n r C0 (f_X6_parse_L11 F fc C n 1 (nI i)) (pLo f L d D s) := by
  intro d
  induction d with
  | zero =>
    intro fc C s D i hd hfc hi g
    obtain ⟨fc, rfl⟩ : ∃ f', fc = f' + 1 := ⟨fc - 1, by omega⟩
    have hL := g.hi.1
    have sl := g.le
    have k0 := (tk_0 (f := f) (L := L) (s := s) (by omega)).1
    refine ⟨C, ?_, g⟩
    unfold f_X6_parse_L11
    rw [g.p500, ob_some, g.hi.2.1]
    by_cases y : L ≤ i
    · rw [if_pos (nI_le y (by omega)), ck_t (Or.inr rfl)]
    · rw [if_neg (nI_ge (by omega) (by omega)), if_neg (show ¬ (1 : Int32) = 0 by decide), g.tk.2.2.2.2.1, k0, if_pos (show nI 0 = 0 by decide), ck_t (Or.inr rfl)]
  | succ d ih =>
    intro fc C s D i hd hfc hi g
    obtain ⟨fc, rfl⟩ : ∃ f', fc = f' + 1 := ⟨fc - 1, by omega⟩
    have hL := g.hi.1
    have sl := g.le
    by_cases hs : s < L
    rotate_left
    · have sp : pLo f L (d + 1) D s = some (.inr (s, D)) := by
        show (if L ≤ s then _ else _) = _
        rw [if_pos (by omega)]
      have k0 := (tk_0 (f := f) (L := L) (s := s) (by omega)).1
      rw [sp]
      refine ⟨C, ?_, g⟩
      unfold f_X6_parse_L11
      rw [g.p500, ob_some, g.hi.2.1]
      by_cases y : L ≤ i
      · rw [if_pos (nI_le y (by omega)), ck_t (Or.inr rfl)]
      · rw [if_neg (nI_ge (by omega) (by omega)), if_neg (show ¬ (1 : Int32) = 0 by decide), g.tk.2.2.2.2.1, k0, if_pos (show nI 0 = 0 by decide), ck_t (Or.inr rfl)]
    have kb := kd_le (f := f) (L := L) (s := s)
    have kn0 : ¬ kdK f L s = 0 := by
      by_cases a : letB (byK f s)
      · rw [(tk_1 hs a).1]; omega
      by_cases b : digB (byK f s)
      · rw [(tk_2 hs a b).1]; omega
      · rw [(tk_3 hs a b).1]; omega
    have nk : ¬ nI (kdK f L s) = (0 : Int32) := fun y => kn0 ((nI_eq (b := 0) (by omega) (by omega)).mp y)
    have sp : pLo f L (d + 1) D s = match pSt f L D s with
      | some (.inr (s', D')) => pLo f L d D' s'
      | x => x := by
      show (if L ≤ s then _ else _) = _
      rw [if_neg (by omega)]
      rfl
    have after : ∀ a x, Out1 f L n r C0 s a x → Rd1 f L n r C0 (Option.bind a fun z => f_X6_parse_L111 F (fun a0 a1 a2 a3 => f_X6_parse_L11 F fc a0 a1 a2 a3) z.2 n z.1 (nI i)) (match x with
      | some (.inr (s', D')) => pLo f L d D' s'
      | x => x) := by
      intro a x o
      match x, o with
      | none, _ => trivial
      | some (.inl (c, t)), o =>
        obtain ⟨hc, C', e, fl⟩ := o
        refine ⟨hc, C', ?_, fl⟩
        rw [e, ob_some]
        unfold f_X6_parse_L111
        simp only [lt_eq]
        obtain ⟨fc', rfl⟩ : ∃ f', fc = f' + 1 := ⟨fc - 1, by omega⟩
        unfold f_X6_parse_L11
        rw [fl.2.2.2, ob_some, ck_t (Or.inl rfl), if_pos rfl]
        by_cases y : si C' 1 20 ≤ nI i + 1
        · rw [if_pos y]
        · rw [if_neg y]
      | some (.inr (s', D')), o =>
        obtain ⟨hs', C', e, g'⟩ := o
        rw [e, ob_some]
        unfold f_X6_parse_L111
        simp only [lt_eq]
        rw [nI_1]
        exact ih fc C' s' D' (i + 1) (by omega) (by omega) (by omega) g'
    have K := fun {j : Nat} (hj : j < 15) => kw_of1 g hj
    rw [sp]
    unfold f_X6_parse_L11 pSt
    rw [g.p500, ob_some, g.hi.2.1, if_neg (nI_ge (by omega) (by omega)), if_neg (show ¬ (1 : Int32) = 0 by decide), g.tk.2.2.2.2.1, if_neg nk, ck_t (kw_lt g.tk), ck_t (kw_lt g.tk), ck_t (kw_lt g.tk), ck_t (kw_lt g.tk)]
    by_cases z3 : txE f L s 3 = true
    · rw [if_neg (fun y => y ((K (by omega)).mpr z3)), if_pos z3]
      exact after _ _ (p_class g hs hF)
    rw [if_pos (fun y => z3 ((K (by omega)).mp y)), if_neg z3]
    by_cases z8 : txE f L s 8 = true
    · rw [if_neg (fun y => y ((K (by omega)).mpr z8)), if_pos z8]
      exact after _ _ (p_user g hs hF)
    rw [if_pos (fun y => z8 ((K (by omega)).mp y)), if_neg z8]
    by_cases z10 : txE f L s 10 = true
    · rw [if_neg (fun y => y ((K (by omega)).mpr z10)), if_pos z10]
      exact after _ _ (p_group g hs hF)
    rw [if_pos (fun y => z10 ((K (by omega)).mp y)), if_neg z10]
    by_cases z11 : txE f L s 11 = true
    · rw [if_neg (fun y => y ((K (by omega)).mpr z11)), if_pos z11]
      exact after _ _ (p_hold g hs hF)
    rw [if_pos (fun y => z11 ((K (by omega)).mp y)), if_neg z11]
    exact after _ _ (Out1.er (by omega) (e_fail g.tk 1) (g.fail 1))
end St2
