/-! a member of a group; a statement's beginning and its end: both sides -/
section Ms
variable {F : Nat} {f D : Nat → Int32} {L n r s : Nat} {C0 M0 C M C' M' : St}
theorem s_member (g : Go f L n r C0 M0 D C M s) (hF : 10000 ≤ F) : (∃ v C' M', 1 ≤ v ∧ v ≤ 1023 ∧ f_X6_takeMember F C n = some (nI v, C') ∧ f_X11_member F M 197 = some (nI v, M') ∧ Go f L n r C0 M0 D C' M' (nxK f L s)) ∨ (∃ C' M', f_X6_takeMember F C n = some (0, C') ∧ f_X11_member F M 197 = some (0, M') ∧ BdM f L s M' ∧ Fl f L n C0 M0 C' M') := by
  have e0 := g.1
  obtain ⟨h1, h2, h3, h4, h5, h6, h7, h8, h9, ⟨w1, w2, w3, w4, w5⟩, h11⟩ := g.2.1
  have h8' : ∀ i, i < L → (f i).toInt8.toInt32 = f i := fun i h => (h2.2.2 i h).2
  have nmE := e_isNm (F := F) h8' h7
  have ru := h8.1
  have ck := g_check (F := F) h11 (by omega)
  obtain ⟨c3, c4, c5, c6⟩ := id h9
  have b5 := c5.2
  unfold f_X6_takeMember f_X11_member
  rw [nmE, ob_some]
  simp only [lt_eq]
  by_cases nm : isNm f L s
  rotate_left
  · have fl := g.fail (c := 1) (by decide) (Mf.rf _)
    have b := h11.bad (c := 1) (by decide)
    refine Or.inr ⟨flC C n s 1, flM M s 1, ?_, ?_, fl.1, fl.2⟩
    · rw [pI_f nm, if_pos rfl]
      unfold f_X6_takeMember_L25 f_X6_takeMember_L51 f_X6_takeMember_L75
      rw [nmE, ob_some]
      simp only [lt_eq]
      rw [pI_f nm, if_pos rfl, if_neg (fun y => y True.intro), if_neg (fun y => y True.intro), nmE, ob_some]
      simp only [lt_eq]
      rw [pI_f nm, if_pos rfl, e_fail h7, ob_some] <;> rfl
    · rw [ck.2 nm, ob_some, b_good b, ob_some]
      simp only [lt_eq]
      unfold f_X11_member_L20 f_X11_member_L37 f_X11_member_L53 f_X11_member_L90
      rw [if_pos True.intro, b_good b, ob_some]
      simp only [lt_eq]
      rw [if_pos True.intro, if_pos (show ¬ (0 : Int32) = -1 by decide), b_good b, ob_some]
      simp only [lt_eq]
      rw [if_neg (fun y => y True.intro), b_goOn b, ob_some]
  have lk1 : f_X5_numberOf F C (r + 6) (sl C 507 n) = some (encO (lkP4 (ai M 199) f L s 1), C) := e_lookP (p := 1) (by omega) h8 h9 h8' nm h7 (by omega)
  have lk2 : f_X5_numberOf F C (r + 10) (sl C 507 n) = some (encO (lkP4 (ai M 199) f L s 2), C) := e_lookP (p := 2) (by omega) h8 h9 h8' nm h7 (by omega)
  have mk1 : f_X11_kindNamed F M 197 (1 : Int32) = some (encO (lkP4 (ai M 199) f L s 1), M) := g_kind (p := 1) h11 h9 (by omega) (by omega)
  have mk2 : f_X11_kindNamed F M 197 (2 : Int32) = some (encO (lkP4 (ai M 199) f L s 2), M) := g_kind (p := 2) h11 h9 (by omega) (by omega)
  have m1 := enc_m1 (f := f) (L := L) (s := s) h9 (p := 1) (by omega)
  have m2 := enc_m1 (f := f) (L := L) (s := s) h9 (p := 2) (by omega)
  have hC : ∀ x, f_X6_takeMember_L25 F C n x = f_X6_takeMember_L51 F C n x (encO (lkP4 (ai M 199) f L s 2)) := fun x => by
    unfold f_X6_takeMember_L25
    rw [nmE, ob_some]
    simp only [lt_eq]
    rw [pI_t nm, if_neg (show ¬ (1 : Int32) = 0 by decide), h6, ob_some, ru.r609_0, ob_some, lk2, ob_some]
  have hM : ∀ x, f_X11_member_L20 F M 197 x = f_X11_member_L37 F M 197 x (encO (lkP4 (ai M 199) f L s 2)) := fun x => by
    unfold f_X11_member_L20
    rw [g_good h11, ob_some]
    simp only [lt_eq]
    rw [if_neg (show ¬ (1 : Int32) = 0 by decide), mk2, ob_some]
  rw [pI_t nm, if_neg (show ¬ (1 : Int32) = 0 by decide), h6, ob_some, ru.r606_0, ob_some, lk1, ob_some]
  simp only [lt_eq]
  rw [hC, ck.1 nm, ob_some, g_good h11, ob_some]
  simp only [lt_eq]
  rw [if_neg (show ¬ (1 : Int32) = 0 by decide), mk1, ob_some]
  simp only [lt_eq]
  rw [hM]
  obtain ⟨C1, M1, n1, n2, n3⟩ := s_next (F := F) g hF
  have e199 := n3.1
  unfold f_X6_takeMember_L51 f_X6_takeMember_L81 f_X11_member_L37 f_X11_member_L53
  cases e1 : lkP4 (ai M 199) f L s 1 with
  | some u =>
    have hu : u < 10 := by have := lk_lt e1; have := kM_le h9 (p := 1) (by omega); omega
    have ne : ¬ encO (some u) = -1 := fun y => by have := m1.mp (by rw [e1]; exact y); rw [e1] at this; cases this
    refine Or.inl ⟨2 ^ u, C1, M1, Nat.pow_pos (by omega), ?_, ?_, ?_, n3⟩
    · have := Nat.pow_le_pow_right (n := 2) (by omega) (show u ≤ 9 by omega)
      omega
    · rw [if_pos ne, n1, ob_some, if_pos ne, enc_s, sh1 (by omega)]
    · rw [if_pos ne, g_good h11, ob_some]
      simp only [lt_eq]
      unfold f_X11_member_L90
      rw [if_pos (show ¬ (1 : Int32) = 0 by decide), if_neg ne, n2, ob_some, enc_s, sh1 (by omega)]
  | none =>
    cases e2 : lkP4 (ai M 199) f L s 2 with
    | some q =>
      have hq : q < kN (ai M 199) 5 := lk_lt e2
      have ne : ¬ encO (some q) = -1 := fun y => by have := m2.mp (by rw [e2]; exact y); rw [e2] at this; cases this
      obtain ⟨q1, q2⟩ := w3 q hq
      have q3 := q1.2
      refine Or.inl ⟨kN (ai M 199) (163 + 7 * q), C1, M1, q2, q3, ?_, ?_, n3⟩
      · have R1 := n3.2.1.2.2.2.2.2.2.2.1
        have l12 := R1.1.l12
        rw [if_neg (fun y => y enc_n), if_pos ne, n1, ob_some, if_neg (fun y => y enc_n), n3.2.1.2.2.2.2.2.1, ob_some, R1.1.r610_0, ob_some, enc_s, e_at (by rw [l12]; omega) (by rw [l12]; omega), ob_some]
        simp only [lt_eq]
        rw [(R1.2.2.2.2.1 q (by rw [e199, ← e0]; exact hq)).1, e199, ← e0, q1.1]
      · rw [if_neg (fun y => y enc_n), if_pos ne, g_good h11, ob_some]
        simp only [lt_eq]
        unfold f_X11_member_L90
        rw [if_pos (show ¬ (1 : Int32) = 0 by decide), if_pos enc_n, h11.2.2.2.2, ob_some, h11.1.l199, enc_s, show (163 : Int32) = nI 163 from rfl, show (7 : Int32) = nI 7 from rfl, nI_mul, nI_add, Int32.add_zero, cki_nI (by omega) (by omega), nI_clamp (by omega), n2, ob_some, q1.1]
    | none =>
      have fl := g.fail (c := 3) (by decide) (Mf.rf _)
      have b := h11.bad (c := 3) (by decide)
      refine Or.inr ⟨flC C n s 3, flM M s 3, ?_, ?_, fl.1, fl.2⟩
      · rw [if_neg (fun y => y enc_n), if_neg (fun y => y enc_n), nmE, ob_some]
        simp only [lt_eq]
        unfold f_X6_takeMember_L75
        rw [pI_t nm, if_neg (show ¬ (1 : Int32) = 0 by decide), e_fail h7, ob_some] <;> rfl
      · rw [if_neg (fun y => y enc_n), if_neg (fun y => y enc_n), g_errs h11, ob_some, b_good b, ob_some]
        simp only [lt_eq]
        unfold f_X11_member_L90
        rw [if_neg (fun y => y True.intro), b_goOn b, ob_some]
/-- a statement begins -/
theorem g_begins (g : GdM f L s M) {T : St} (e : f_X11_goOn F M 197 = some T) {s' : Nat} (h : GdM f L s' T) : f_X11_begins F M 197 1 = some (1, T) := by
  unfold f_X11_begins f_X11_begins_L9
  rw [if_pos (show ¬ (1 : Int32) = 0 by decide), e, ob_some, g_good h, ob_some]
  simp only [lt_eq]
  rw [ck_t (Or.inr True.intro)]
theorem g_begins0 (g : GdM f L s M) : f_X11_begins F M 197 0 = some (0, flM M s 4) := by
  have b := g.bad (c := 4) (by decide)
  unfold f_X11_begins f_X11_begins_L9
  rw [if_neg (fun y => y rfl), g_errs g, ob_some, b_goOn b, ob_some, b_good b, ob_some]
  simp only [lt_eq]
  rw [ck_t (Or.inl True.intro)]
theorem e_full {q c k : Nat} (h0 : sr C 400 q = some (q + 1)) (h1 : si C 401 q = nI c) (hl : ln C (q + 1) = k) (hk : k < 100) (hc : c ≤ k) : f_X5_isFull F C q = some (if c < k then 0 else 1, C) := by
  unfold f_X5_isFull
  rw [h0, ob_some, h1, hl]
  by_cases z : c < k
  · rw [if_pos (nI_lt z (by omega)), if_pos z]
  · rw [if_neg (nI_nlt (by omega) (by omega)), if_neg z]
/-- a statement ends: the count was raised ahead of it -/
theorem s_tail (g : Go f L n r C0 M0 D C M s) (q : Nat) (v : Int32) (hF : 10000 ≤ F) :
    (∃ C' T M', f_X6_takeSymbol F C n 59 = some (1, C') ∧ f_X11_parseStatement_L69 F (uai M 199 q v) 197 = some M' ∧ Go f L n r C0 M0 D C' T (nxK f L s) ∧ GdM f L (nxK f L s) M' ∧ ai M' 199 = upd D q v ∧ si M' 1014 197 = -1 ∧ Mf scE is199 M0 M' ∧ s < nxK f L s) ∨
    (∃ C' M', f_X6_takeSymbol F C n 59 = some (0, C') ∧ f_X11_parseStatement_L69 F (uai M 199 q v) 197 = some M' ∧ Fl f L n C0 M0 C' M') := by
  have e0 := g.1
  obtain ⟨h1, h2, h3, h4, h5, h6, h7, h8, h9, h10, h11⟩ := g.2.1
  have d : D9 M (uai M 199 q v) := D9.uai _
  have g1 := h11.d9 d
  have tk := e_takeSy (F := F) h1 h2 h3 h5 h7 59 hF
  unfold f_X11_parseStatement_L69 f_X11_parseStatement_L83
  rw [g_isSy g1, ob_some]
  simp only [lt_eq]
  by_cases z : isSy f L s 59
  · obtain ⟨C', a1, a2, a3⟩ := tk.1 z
    obtain ⟨T, b1, b2, b3⟩ := g_goOn (F := F) h11 hF
    obtain ⟨M', c1, c2, c3⟩ := g_goOn (F := F) g1 hF
    refine Or.inl ⟨C', T, M', a1, ?_, g.nx a2 a3 b2 b3, c3, ?_, ?_, ?_, nx_gt ?_⟩
    · rw [pI_t z, if_pos (show ¬ (1 : Int32) = 0 by decide), c1, ob_some]
    · rw [c2.2.2.1 199 (fun z => z), ai_uaiE, e0]
    · rw [c2.2.1 1014 197 (fun z => by have := z.2; unfold scM at this; omega)]
      exact (d.si _ _).trans g.2.2.2.1
    · exact (g.2.2.2.2.2.2.2.tr d.e).tr (c2.mono (fun k z => by unfold scM at z; unfold scE; omega) (fun k z => False.elim z))
    · have := z.1
      by_cases y : s < L
      · exact y
      · rw [(tk_0 (by omega)).1] at this; omega
  · have e1 : flM (uai M 199 q v) s 1 = uai (flM M s 1) 199 q v := rfl
    have fl := g.fail (c := 1) (M' := flM (uai M 199 q v) s 1) (by decide) (by rw [e1]; exact D9.uai _)
    refine Or.inr ⟨_, _, tk.2 z, ?_, fl.2⟩
    rw [pI_f z, if_neg (fun y => y rfl), g_errs g1, ob_some, b_goOn fl.1, ob_some]
/-- the row is added -/
theorem s_add {q : Nat} {C2 T : St} (g : Go f L n r C0 M0 D C T s) (h : Sim f L n r C2 (uai T 199 q (ai T 199 q + 1)) s) (fr : ∀ k, ¬ (r ≤ k ∧ k ≤ r + 18) → SameO C C2 k) (e : ai M' 199 = upd D q (D q + 1)) (gd : GdM f L s M') (m4 : si M' 1014 197 = -1) (mf : Mf scE is199 M0 M') (hq : q = 3 ∨ q = 4 ∨ q = 5) : Go f L n r C0 M0 (upd D q (D q + 1)) C2 M' s := by
  obtain ⟨e0, k1, ⟨⟨z1, z2, z3⟩, ⟨z4, z5, z6⟩, z7⟩, k2, k3, k4, k5⟩ := g
  have hnr : n < r := k1.2.2.2.1
  have ee : ai (uai T 199 q (ai T 199 q + 1)) 199 = ai M' 199 := by rw [ai_uaiE, e0, e]
  obtain ⟨h1, h2, h3, h4, h5, h6, h7, h8, h9, h10, h11⟩ := h
  rw [ee] at h8 h9 h10
  refine ⟨e, ⟨h1, h2, h3, h4, h5, h6, h7, h8, h9, h10, gd⟩, ⟨⟨(d_cnt (by omega)).mpr z1, (d_cnt (by omega)).mpr z2, by rw [d_k (by omega)]; exact z3⟩, ⟨by rw [upd_n (by omega)]; exact z4, fun k a b => by rw [upd_n (by omega)]; exact z5 k a b, fun k a b => by rw [upd_n (by omega)]; exact z6 k a b⟩, fun x hx => ?_⟩, m4, ((fr n (by omega)).1 502).trans k3, ((fr n (by omega)).1 503).trans k4, fun k hk => (k5.1 k hk).tr (fr k (by omega)), mf⟩
  rw [d_k (by omega)] at hx
  rw [upd_n (by omega)]
  exact z7 x hx
end Ms
