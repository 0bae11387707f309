/-! statement after statement: both sides -/
section Ps
variable {F : Nat} {f D : Nat → Int32} {L n r s : Nat} {C0 M0 C M C' M' : St}
theorem b_121' {fu : Nat} (b : BdM f L s M) : f_X11_load_L121 F (fu + 1) M 197 = some (-4, ur M 1004 197 (some 198)) := by
  unfold f_X11_load_L121 f_X11_load_L142
  rw [b_good b, ob_some]
  simp only [lt_eq]
  have g : f_X11_good F (ur M 1004 197 (some 198)) 197 = some (0, ur M 1004 197 (some 198)) := by
    unfold f_X11_good
    rw [if_pos (show ¬ si (ur M 1004 197 (some 198)) 1013 197 = 0 from b.2.2.2.1)]
  rw [if_pos True.intro, b.1.r1001_197, ob_some, g, ob_some]
  simp only [lt_eq]
  rw [if_neg (fun y => y True.intro)]
/-- how the reading comes out -/
def Rd (f : Nat → Int32) (L n r : Nat) (C0 M0 : St) (F : Nat) (a b : Option (Int32 × St)) : Prop :=
  (∃ D' C' M' s', a = some (1, C') ∧ b = f_X11_load_L142 F M' 197 ∧ Go f L n r C0 M0 D' C' M' s') ∨ (∃ C' M', a = some (0, C') ∧ b = some (-4, ur M' 1004 197 (some 198)) ∧ Fl f L n C0 M0 C' M')
theorem s_loop (hF : 10000 ≤ F) : ∀ d fc fm C M s D i, L - s ≤ d → d + 1 < fc → d + 1 < fm → i ≤ s → Go f L n r C0 M0 D C M s → Rd f L n r C0 M0 F (f_X6_parse_L11 F fc C n 1 (nI i)) (f_X11_load_L121 F fm M 197) := by
  intro d
  induction d with
  | zero =>
    intro fc fm C M s D i hd hfc hfm hi g
    obtain ⟨fc, rfl⟩ : ∃ f', fc = f' + 1 := ⟨fc - 1, by omega⟩
    obtain ⟨fm, rfl⟩ : ∃ f', fm = f' + 1 := ⟨fm - 1, by omega⟩
    have hL := g.2.1.2.1.1
    have sl := g.le
    have k0 := (tk_0 (f := f) (L := L) (s := s) (by omega)).1
    refine Or.inl ⟨D, C, M, s, ?_, ?_, g⟩
    · unfold f_X6_parse_L11
      rw [g.2.1.2.2.2.2.1, ob_some, g.2.1.2.1.2.1]
      by_cases y : L ≤ i
      · rw [if_pos (nI_le y (by omega)), ck_t (Or.inr rfl)]
      · rw [if_neg (nI_ge (by omega) (by omega)), if_neg (show ¬ (1 : Int32) = 0 by decide), g.tk.2.2.2.2.1, k0, if_pos (show nI 0 = 0 by decide), ck_t (Or.inr rfl)]
    · unfold f_X11_load_L121
      rw [g_good g.gd, ob_some]
      simp only [lt_eq]
      rw [if_neg (show ¬ (1 : Int32) = 0 by decide), g.gd.2.2.1.2.2.2.2.1, k0, if_pos (show nI 0 = 0 by decide)]
  | succ d ih =>
    intro fc fm C M s D i hd hfc hfm hi g
    obtain ⟨fc, rfl⟩ : ∃ f', fc = f' + 1 := ⟨fc - 1, by omega⟩
    obtain ⟨fm, rfl⟩ : ∃ f', fm = f' + 1 := ⟨fm - 1, by omega⟩
    have hL := g.2.1.2.1.1
    have sl := g.le
    by_cases hs : s < L
    rotate_left
    · exact ih (fc + 1) (fm + 1) C M s D i (by omega) (by omega) (by omega) hi g
    have kb := kd_le (f := f) (L := L) (s := s)
    have kn0 : ¬ kdK f L s = 0 := by
      by_cases a : letB (byK f s)
      · rw [(tk_1 hs a).1]; omega
      by_cases b : digB (byK f s)
      · rw [(tk_2 hs a b).1]; omega
      · rw [(tk_3 hs a b).1]; omega
    have nk : ¬ nI (kdK f L s) = (0 : Int32) := fun y => kn0 ((nI_eq (b := 0) (by omega) (by omega)).mp y)
    have after : ∀ a b, Out f L n r C0 M0 s a b → Rd f L n r C0 M0 F (Option.bind a fun z => f_X6_parse_L111 F (fun a0 a1 a2 a3 => f_X6_parse_L11 F fc a0 a1 a2 a3) z.2 n z.1 (nI i)) (Option.bind b fun S48 => f_X11_load_L121 F fm S48 197) := by
      intro a b o
      rcases o with ⟨D', C', M', s', h1, h2, h3, h4⟩ | ⟨C', M', h2, h3, h4⟩
      · rw [h2, h3, ob_some, ob_some]
        unfold f_X6_parse_L111
        simp only [lt_eq]
        rw [nI_1]
        exact ih fc fm C' M' s' D' (i + 1) (by omega) (by omega) (by omega) (by omega) h4
      · rw [h2, h3, ob_some, ob_some]
        unfold f_X6_parse_L111
        simp only [lt_eq]
        obtain ⟨fc', rfl⟩ : ∃ f', fc = f' + 1 := ⟨fc - 1, by omega⟩
        obtain ⟨fm', rfl⟩ : ∃ f', fm = f' + 1 := ⟨fm - 1, by omega⟩
        obtain ⟨c, t, s', q1, q2, q3, q4, -⟩ := h4.1
        refine Or.inr ⟨C', M', ?_, b_121' q4, h4⟩
        unfold f_X6_parse_L11
        rw [h4.2.2, ob_some, ck_t (Or.inl rfl), if_pos rfl]
        by_cases y : si C' 1 20 ≤ nI i + 1
        · rw [if_pos y]
        · rw [if_neg y]
    have T := fun {j : Nat} (hj : j < 15) => g_isText (F := F) g.gd hj (by omega)
    have K := fun {j : Nat} (hj : j < 15) => kw_of g hj
    unfold f_X6_parse_L11 f_X11_load_L121
    rw [g_good g.gd, ob_some]
    simp only [lt_eq]
    rw [if_neg (show ¬ (1 : Int32) = 0 by decide), g.gd.2.2.1.2.2.2.2.1, if_neg nk, g.2.1.2.2.2.2.1, ob_some, g.2.1.2.1.2.1, if_neg (nI_ge (by omega) (by omega)), if_neg (show ¬ (1 : Int32) = 0 by decide), g.tk.2.2.2.2.1, if_neg nk, ck_t (kw_lt g.tk), ck_t (kw_lt g.tk), ck_t (kw_lt g.tk), ck_t (kw_lt g.tk)]
    unfold f_X11_parseStatement
    rw [T (by omega), ob_some]
    simp only [lt_eq]
    by_cases z3 : isTx f L s 3
    · rw [if_neg (fun y => y ((K (by omega)).mpr z3)), pI_t z3, if_neg (show ¬ (1 : Int32) = 0 by decide)]
      exact after _ _ (s_class g hs hF)
    rw [if_pos (fun y => z3 ((K (by omega)).mp y)), pI_f z3, if_pos rfl, T (by omega), ob_some]
    simp only [lt_eq]
    by_cases z8 : isTx f L s 8
    · rw [if_neg (fun y => y ((K (by omega)).mpr z8)), pI_t z8, if_neg (show ¬ (1 : Int32) = 0 by decide)]
      exact after _ _ (s_user g hs hF)
    rw [if_pos (fun y => z8 ((K (by omega)).mp y)), pI_f z8, if_pos rfl, T (by omega), ob_some]
    simp only [lt_eq]
    by_cases z10 : isTx f L s 10
    · rw [if_neg (fun y => y ((K (by omega)).mpr z10)), pI_t z10, if_neg (show ¬ (1 : Int32) = 0 by decide)]
      exact after _ _ (s_group g hs hF)
    rw [if_pos (fun y => z10 ((K (by omega)).mp y)), pI_f z10, if_pos rfl, T (by omega), ob_some]
    simp only [lt_eq]
    by_cases z11 : isTx f L s 11
    · rw [if_neg (fun y => y ((K (by omega)).mpr z11)), pI_t z11, if_neg (show ¬ (1 : Int32) = 0 by decide)]
      exact after _ _ (s_hold g hs hF)
    rw [if_pos (fun y => z11 ((K (by omega)).mp y)), pI_f z11, if_pos rfl]
    have fl := g.fail (c := 1) (by decide) (Mf.rf _)
    exact after _ (Option.bind (f_X11_errs F M 197 1) fun T => f_X11_parseStatement_L69 F T 197) (Or.inr ⟨_, _, e_fail g.tk 1, by rw [g_errs g.gd, ob_some]; exact b_69 fl.1, fl.2⟩)
end Ps
