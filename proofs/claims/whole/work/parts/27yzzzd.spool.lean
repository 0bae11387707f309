/-! the spool's statement: both sides -/
def Rf (n r : Nat) (C0 C : St) : Prop := ∀ k, ¬ k = n → (∀ g, ¬ (k = r ∧ (g = 600 ∨ g = 601)) → si C g k = si C0 g k) ∧ (∀ g, sr C g k = sr C0 g k) ∧ ai C k = ai C0 k ∧ al C k = al C0 k ∧ ar C k = ar C0 k ∧ ln C k = ln C0 k
def Gs (f : Nat → Int32) (L n r : Nat) (C0 M0 : St) (D : Nat → Int32) (C M : St) (s : Nat) : Prop :=
  ai M 199 = D ∧ FxF C ∧ Inp C f L ∧ 212 ≤ n ∧ n < r ∧ sr C 500 n = some 20 ∧ sr C 501 n = some r ∧ TokC f L C n s ∧ GdM f L s M ∧ (si M 1014 197 = -1 ∧ si C 502 n = 0 ∧ si C 503 n = -1) ∧ Rf n r C0 C ∧ Mf scE is199 M0 M
def ruZ (C0 : St) (r : Nat) : Prop := RuF C0 r ∧ si C0 401 (r + 1) = 0 ∧ si C0 401 (r + 6) = 0 ∧ si C0 401 (r + 10) = 0 ∧ si C0 401 (r + 13) = 0
section Sp
variable {F : Nat} {f D : Nat → Int32} {L n r s : Nat} {C0 M0 C M C' M' : St}
theorem Rf.pa (h : Rf n r C0 C) (p : PaF n C C') : Rf n r C0 C' := fun k hk => by
  obtain ⟨a1, a2, a3, a4, a5, a6⟩ := h k hk
  obtain ⟨b1, b2, b3, b4, b5, b6⟩ := p.1 k hk
  exact ⟨fun g hg => (b1 g).trans (a1 g hg), fun g => (b2 g).trans (a2 g), b3.trans a3, b4.trans a4, b5.trans a5, b6.trans a6⟩
theorem Rf.fr (h : Rf n r C0 C) (hn : n < r) : ∀ k, k < n → SameO C0 C k := fun k hk => ⟨fun g => (h k (by omega)).1 g (by omega), (h k (by omega)).2⟩
theorem Gs.nx (g : Gs f L n r C0 M0 D C M s) (p : PaF n C C') (t : TokC f L C' n (nxK f L s)) (m : Mf scM noA M M') (gd : GdM f L (nxK f L s) M') : Gs f L n r C0 M0 D C' M' (nxK f L s) := by
  obtain ⟨e, h1, h2, h3, h4, h5, h6, h7, h8, ⟨e1, e2, e3⟩, rf, mf⟩ := g
  exact ⟨(m.2.2.1 199 (fun z => z)).trans e, p.fx h3 h1, p.inp h3 h2, h3, h4, (p.2.1 500 (by omega)).trans h5, (p.2.1 501 (by omega)).trans h6, t, gd, ⟨(m.2.1 1014 197 (fun z => by have := z.2; unfold scM at this; omega)).trans e1, (p.2.2.1 502 (by omega) (by omega)).trans e2, (p.2.2.1 503 (by omega) (by omega)).trans e3⟩, rf.pa p, mf.tr (m.mono (fun k z => by unfold scM at z; unfold scE; omega) (fun k z => False.elim z))⟩
theorem Gs.fail (g : Gs f L n r C0 M0 D C M s) {c : Int32} (hc : ¬ c = 0) (d : D9 (flM M s c) M') : BdM f L s M' ∧ Fl f L n C0 M0 (flC C n s c) M' := by
  obtain ⟨e, h1, h2, h3, h4, h5, h6, h7, h8, ⟨e1, e2, e3⟩, rf, mf⟩ := g
  have b := (h8.bad hc).fr d
  have fr := rf.fr h4
  refine ⟨b, ⟨c, nI s, s, hc, ?_, ?_, b, ?_, ?_⟩, ⟨fun k hk => (fr k hk).tr ((SameO.ui _ (by omega)).tr (SameO.ui _ (by omega))), (mf.tr ((Mf.ui _ (by unfold scE; omega)).tr (Mf.ui _ (by unfold scE; omega)))).tr d.e⟩, h5⟩
  · unfold flC; rw [si_ui, if_neg (by omega), si_ui, if_pos ⟨rfl, rfl⟩]
  · unfold flC; rw [si_ui, if_pos ⟨rfl, rfl⟩]
  · rw [d.si]; unfold flM; rw [si_ui, if_neg (by omega), si_ui, if_pos ⟨rfl, rfl⟩]
  · rw [d.si]; unfold flM; rw [si_ui, if_pos ⟨rfl, rfl⟩]
theorem si_wr (S : St) (g i : Nat) (v : Int32) : si (ui S g i v) g i = v := by rw [si_ui, if_pos ⟨rfl, rfl⟩]
theorem Fl.wi (h : Fl f L n C0 M0 C M) (hn : n < r) {g : Nat} (v : Int32) : Fl f L n C0 M0 (ui C g r v) M := by
  obtain ⟨⟨c, t, s, a1, a2, a3, a4, a5, a6⟩, fr, h5⟩ := h
  exact ⟨⟨c, t, s, a1, by rw [si_ui, if_neg (by omega)]; exact a2, by rw [si_ui, if_neg (by omega)]; exact a3, a4, a5, a6⟩, ⟨fun k hk => (fr.1 k hk).tr (SameO.ui _ (by omega)), fr.2⟩, h5⟩
theorem Gs.wi (h : Gs f L n r C0 M0 D C M s) {g : Nat} (hg : g = 600 ∨ g = 601) (v : Int32) : Gs f L n r C0 M0 D (ui C g r v) M s := by
  obtain ⟨e, h1, h2, h3, h4, h5, h6, h7, h8, ⟨e1, e2, e3⟩, rf, mf⟩ := h
  have sm : ∀ k, ¬ k = r → SameO C (ui C g r v) k := fun k hk => SameO.ui _ hk
  have sn : ∀ x, si (ui C g r v) x n = si C x n := fun x => (sm n (by omega)).1 x
  refine ⟨e, h1.same (fun i hi => sm i (by omega)), ⟨h2.1, ((sm 20 (by omega)).1 1).trans h2.2.1, h2.2.2⟩, h3, h4, h5, h6, ?_, h8, ⟨e1, (sn _).trans e2, (sn _).trans e3⟩, fun k hk => ?_, mf⟩
  · unfold TokC at h7 ⊢
    rw [sn, sn, sn, sn]
    exact h7
  · obtain ⟨a1, a2⟩ := rf k hk
    refine ⟨fun x hx => ?_, a2⟩
    rw [si_ui, if_neg (by omega)]
    exact a1 x hx
theorem Gs.up (g : Gs f L n r C0 M0 D C M s) (o : Nat) (v : Int32) : Gs f L n r C0 M0 (upd D o v) C (uai M 199 o v) s := by
  obtain ⟨e, h1, h2, h3, h4, h5, h6, h7, h8, e1, rf, mf⟩ := g
  have d : D9 M (uai M 199 o v) := D9.uai _
  exact ⟨by rw [ai_uaiE, e], h1, h2, h3, h4, h5, h6, h7, h8.d9 d, e1, rf, mf.tr d.e⟩
theorem q_word {j : Nat} (hj : j < 15) (g : Gs f L n r C0 M0 D C M s) (hF : 10000 ≤ F) : (∃ C' M', f_X6_take F C n j = some (1, C') ∧ f_X11_word F M 197 j = some M' ∧ Gs f L n r C0 M0 D C' M' (nxK f L s) ∧ PaF n C C') ∨ (∃ C' M', f_X6_take F C n j = some (0, C') ∧ f_X11_word F M 197 j = some M' ∧ BdM f L s M' ∧ Fl f L n C0 M0 C' M') := by
  obtain ⟨e, h1, h2, h3, h4, h5, h6, h7, h8, e1, rf, mf⟩ := id g
  by_cases z : isTx f L s j
  · obtain ⟨C', a1, a2, a3⟩ := (e_take (F := F) h1 h2 h3 h5 h7 hj hF).1 z
    obtain ⟨M', b1, b2, b3⟩ := (g_word (F := F) h8 hj hF).1 z
    exact Or.inl ⟨C', M', a1, b1, g.nx a2 a3 b2 b3, a2⟩
  · have fl := g.fail (c := 1) (by decide) (Mf.rf _)
    exact Or.inr ⟨_, _, (e_take (F := F) h1 h2 h3 h5 h7 hj hF).2 z, (g_word (F := F) h8 hj hF).2 z, fl.1, fl.2⟩
theorem q_num {lo hh : Nat} (hh9 : hh ≤ 99999) (hlo : lo ≤ 99999) (g : Gs f L n r C0 M0 D C M s) (hF : 10000 ≤ F) : (∃ v C' M', lo ≤ v ∧ v ≤ hh ∧ f_X6_takeNumber F C n (nI lo) (nI hh) = some (nI v, C') ∧ f_X11_number F M 197 (nI lo) (nI hh) = some (nI v, M') ∧ Gs f L n r C0 M0 D C' M' (nxK f L s) ∧ PaF n C C') ∨ (∃ C' M', f_X6_takeNumber F C n (nI lo) (nI hh) = some (-1, C') ∧ f_X11_number F M 197 (nI lo) (nI hh) = some (nI lo, M') ∧ BdM f L s M' ∧ Fl f L n C0 M0 C' M' ∧ sr C' 501 n = some r) := by
  obtain ⟨e, h1, h2, h3, h4, h5, h6, h7, h8, e1, rf, mf⟩ := id g
  by_cases z : ∃ v, nuOk f L s lo hh v
  · obtain ⟨v, z⟩ := z
    obtain ⟨C', a1, a2, a3⟩ := (e_takeNu (F := F) h1 h2 h3 h5 h7 (lo := lo) hh9 hF).1 v z
    obtain ⟨M', b1, b2, b3⟩ := (g_number (F := F) h8 hh9 hlo hF).1 v z
    exact Or.inl ⟨v, C', M', z.2.1, z.2.2, a1, b1, g.nx a2 a3 b2 b3, a2⟩
  · have z' : ∀ v, ¬ nuOk f L s lo hh v := fun v y => z ⟨v, y⟩
    have fl := g.fail (c := if kdK f L s = 2 then 2 else 1) (by by_cases y : kdK f L s = 2 <;> simp only [y, if_true, if_false] <;> decide) (Mf.rf _)
    exact Or.inr ⟨_, _, (e_takeNu (F := F) h1 h2 h3 h5 h7 hh9 hF).2 z' hlo, (g_number (F := F) h8 hh9 hlo hF).2 z', fl.1, fl.2, h6⟩
theorem Go.of (g : Gs f L n r C0 M0 D C M s) (h6 : si C 600 r = D 0 ∧ si C 601 r = D 1) (hD : ∀ k, 2 ≤ k → k < 6391 → D k = 0) (b : isCnt D 0 30 ∧ isCnt D 1 30 ∧ 1 ≤ kN D 1) (hR : ruZ C0 r) : Go f L n r C0 M0 D C M s := by
  obtain ⟨e, h1, h2, h3, h4, h5, h6', h7, h8, ⟨e1, e2, e3⟩, rf, mf⟩ := g
  obtain ⟨ru, z1, z2, z3, z4⟩ := hR
  have k0 : ∀ k, 2 ≤ k → k < 6391 → kN D k = 0 := fun k a c => by unfold kN; rw [hD k a c]; rfl
  have cn : ∀ k c, 2 ≤ k → k < 6391 → isCnt D k c := fun k c a y => ⟨by rw [k0 k a y, hD k a y]; rfl, by rw [k0 k a y]; omega⟩
  refine ⟨e, ⟨h1, h2, h3, h4, h5, h6', h7, ?_, ?_, ?_, h8⟩, ⟨b, ⟨hD 2 (by omega) (by omega), fun k a c => hD k (by omega) (by omega), fun k a c => hD k (by omega) c⟩, fun x hx => ?_⟩, e1, e2, e3, rf.fr h4, mf⟩
  · rw [e]
    refine ⟨⟨fun q hq => by rw [(rf _ (by omega)).2.1]; exact ru.1 q hq, fun q hq => by rw [(rf _ (by omega)).2.2.2.2.2]; exact ru.2 q hq⟩, ⟨h6.1, h6.2, ?_, ?_, ?_, ?_⟩, fun x hx => ?_, fun x hx => ?_, fun x hx => ?_, fun x hx => ?_⟩
    · rw [(rf _ (by omega)).1 _ (by omega), z1, hD 3 (by omega) (by omega)]
    · rw [(rf _ (by omega)).1 _ (by omega), z2, hD 4 (by omega) (by omega)]
    · rw [(rf _ (by omega)).1 _ (by omega), z3, hD 5 (by omega) (by omega)]
    · rw [(rf _ (by omega)).1 _ (by omega), z4, hD 6 (by omega) (by omega)]
    · rw [k0 3 (by omega) (by omega)] at hx; omega
    · rw [k0 4 (by omega) (by omega)] at hx; omega
    · rw [k0 5 (by omega) (by omega)] at hx; omega
    · rw [k0 6 (by omega) (by omega)] at hx; omega
  · rw [e]
    exact ⟨cn _ _ (by omega) (by omega), cn _ _ (by omega) (by omega), cn _ _ (by omega) (by omega), cn _ _ (by omega) (by omega)⟩
  · rw [e]
    refine ⟨fun x hx => ?_, fun x hx => ?_, fun x hx => ?_, fun x hx => ?_, fun x hx => ?_⟩
    · rw [k0 3 (by omega) (by omega)] at hx; omega
    · rw [k0 4 (by omega) (by omega)] at hx; omega
    · rw [k0 5 (by omega) (by omega)] at hx; omega
    · rw [k0 6 (by omega) (by omega)] at hx; omega
    · rw [k0 4 (by omega) (by omega)] at hx; omega
  · rw [k0 6 (by omega) (by omega)] at hx; omega
/-- the model's pieces -/
def sp3 (F : Nat) (S : St) : Option (Int32 × St) := Option.bind (f_X11_isSymbol F S 197 ((59 : Int32))) fun z94 => lt z94.1 fun r96 => lt z94.2 fun S95 =>
    if ¬ r96 = 0 then
    (f_X11_load_L117 F S95 197)
    else
    (Option.bind (f_X11_errs F S95 197 ((1 : Int32))) fun S100 =>
    f_X11_load_L117 F S100 197)
def sp2 (F : Nat) (S : St) : Option (Int32 × St) := Option.bind (sr S 1004 197) fun j87 =>
    Option.bind (f_X11_numberAfter F S 197 2 ((1 : Int32)) ((30 : Int32))) fun z88 => lt z88.1 fun r90 => lt z88.2 fun S89 =>
    cki 1 (ln S89 j87) <|
    lt (uai S89 j87 (Int32.toNatClampNeg 1) r90) fun S93 => sp3 F S93
def sp1 (F : Nat) (S : St) : Option (Int32 × St) := Option.bind (f_X11_word F S 197 0) fun S77 =>
    Option.bind (sr S77 1004 197) fun j80 =>
    Option.bind (f_X11_numberAfter F S77 197 1 ((0 : Int32)) ((30 : Int32))) fun z81 => lt z81.1 fun r83 => lt z81.2 fun S82 =>
    cki 0 (ln S82 j80) <|
    lt (uai S82 j80 (Int32.toNatClampNeg 0) r83) fun S86 => sp2 F S86
theorem sp_eq (S : St) {fu : Nat} : f_X11_load_L35 F (fu + 1) S 197 (nI 6391) = Option.bind (sr S 1002 197) fun j70 => lt (ur S 1004 197 (some j70)) fun S71 => Option.bind (f_X11_scan F S71 197) fun S73 => sp1 F S73 := by
  unfold f_X11_load_L35
  rw [if_pos (show (6391 : Int32) ≤ nI 6391 by decide)]
  rfl
theorem b_sp3 (b : BdM f L s M) (hF : 1000 ≤ F) : sp3 F M = some (-4, ur M 1004 197 (some 198)) := by
  obtain ⟨fu, hfu⟩ : ∃ f', F = f' + 1 := ⟨F - 1, by omega⟩
  unfold sp3 f_X11_load_L117
  rw [b_isSymbol b, ob_some]
  simp only [lt_eq]
  rw [if_neg (fun y => y True.intro), b_errs b, ob_some, b_goOn b, ob_some, hfu, b_121' b]
theorem b_sp2 (b : BdM f L s M) (hF : 1000 ≤ F) : ∃ T, sp2 F M = some (-4, ur T 1004 197 (some 198)) ∧ D9 M T := by
  have d1 : D9 M (uai M 199 1 1) := D9.uai _
  refine ⟨_, ?_, d1⟩
  unfold sp2
  rw [b.2.2.2.2, ob_some, b_numberAfter b (by omega) _ _ hF, ob_some]
  simp only [lt_eq]
  rw [b.1.l199, cki_1 (by omega) (by omega), cl1, b_sp3 (b.fr d1) hF]
theorem s_spool (g : Gs f L n r C0 M0 D C M s) (hD : ∀ k, k < 6391 → D k = 0) (hR : ruZ C0 r) (hF : 10000 ≤ F) :
    (∃ D' C' M' s', f_X6_spoolStatement F C n = some (1, C') ∧ sp1 F M = f_X11_load_L121 F F M' 197 ∧ Go f L n r C0 M0 D' C' M' s') ∨ (∃ C' M', f_X6_spoolStatement F C n = some (0, C') ∧ sp1 F M = some (-4, ur M' 1004 197 (some 198)) ∧ Fl f L n C0 M0 C' M') := by
  have hn := g.2.2.2.2.1
  unfold f_X6_spoolStatement sp1
  rcases q_word (F := F) (j := 0) (by omega) g hF with ⟨C1, M1, a1, b1, g1, p1⟩ | ⟨C1, M1, a1, b1, bd, fl⟩
  rotate_left
  · have d1 : D9 M1 (uai M1 199 0 0) := D9.uai _
    obtain ⟨T, q1, q2⟩ := b_sp2 (F := F) (bd.fr d1) (by omega)
    refine Or.inr ⟨C1, T, ?_, ?_, fl.d9 (d1.tr q2)⟩
    · rw [a1, ob_some]
      simp only [lt_eq]
      rw [if_pos True.intro]
    · rw [b1, ob_some, bd.2.2.2.2, ob_some, b_numberAfter bd (by omega) _ _ (by omega), ob_some]
      simp only [lt_eq]
      rw [bd.1.l199, cki_0 (by omega) (by omega), cl0, q1]
  rw [a1, ob_some, b1, ob_some]
  simp only [lt_eq]
  rw [if_neg (show ¬ (1 : Int32) = 0 by decide), g1.2.2.2.2.2.2.2.2.1.2.2.2.2, ob_some]
  unfold f_X11_numberAfter
  rcases q_word (F := F) (j := 1) (by omega) g1 hF with ⟨C2, M2, a2, b2, g2, p2⟩ | ⟨C2, M2, a2, b2, bd, fl⟩
  rotate_left
  · have d1 : D9 M2 (uai M2 199 0 0) := D9.uai _
    obtain ⟨T, q1, q2⟩ := b_sp2 (F := F) (bd.fr d1) (by omega)
    refine Or.inr ⟨C2, T, ?_, ?_, fl.d9 (d1.tr q2)⟩
    · rw [a2, ob_some]
      simp only [lt_eq]
      rw [if_neg (fun y => y True.intro)]
    · rw [b2, ob_some, b_number bd, ob_some]
      simp only [lt_eq]
      rw [ob_some]
      simp only [lt_eq]
      rw [bd.1.l199, cki_0 (by omega) (by omega), cl0, q1]
  rw [a2, ob_some, b2, ob_some]
  simp only [lt_eq]
  rw [if_pos (show ¬ (1 : Int32) = 0 by decide), g2.2.2.2.2.2.2.1, ob_some]
  rcases q_num (F := F) (lo := 0) (hh := 30) (by omega) (by omega) g2 hF with ⟨v, C3, M3, v1, v2, a3, b3, g3, p3⟩ | ⟨C3, M3, a3, b3, bd, fl, h501⟩
  rotate_left
  · have a3' : f_X6_takeNumber F C2 n 0 30 = some (-1, C3) := a3
    have b3' : f_X11_number F M2 197 0 30 = some (0, M3) := b3
    have d1 : D9 M3 (uai M3 199 0 0) := D9.uai _
    obtain ⟨T, q1, q2⟩ := b_sp2 (F := F) (bd.fr d1) (by omega)
    refine Or.inr ⟨ui C3 600 r (-1), T, ?_, ?_, (fl.d9 (d1.tr q2)).wi hn _⟩
    · rw [a3', ob_some]
      simp only [lt_eq]
      rw [sr_ui, h501, ob_some, si_wr, if_pos rfl]
    · rw [b3', ob_some]
      simp only [lt_eq]
      rw [ob_some]
      simp only [lt_eq]
      rw [bd.1.l199, cki_0 (by omega) (by omega), cl0, q1]
  have a3' : f_X6_takeNumber F C2 n 0 30 = some (nI v, C3) := a3
  have b3' : f_X11_number F M2 197 0 30 = some (nI v, M3) := b3
  have g4 := (g3.wi (g := 600) (Or.inl rfl) (nI v)).up 0 (nI v)
  rw [a3', ob_some, b3', ob_some]
  simp only [lt_eq]
  rw [ob_some]
  simp only [lt_eq]
  rw [g3.2.2.2.2.2.2.2.2.1.1.l199, cki_0 (by omega) (by omega), cl0, sr_ui, g3.2.2.2.2.2.2.1, ob_some, si_wr, if_neg (nI_nm (by omega))]
  have c4 : si (ui C3 600 r (nI v)) 600 r = nI v := by rw [si_ui, if_pos ⟨rfl, rfl⟩]
  generalize ui C3 600 r (nI v) = C4 at *
  generalize uai M3 199 0 (nI v) = M4 at *
  unfold sp2 f_X11_numberAfter
  rw [g4.2.2.2.2.2.2.2.2.1.2.2.2.2, ob_some]
  rcases q_word (F := F) (j := 2) (by omega) g4 hF with ⟨C5, M5, a5, b5, g5, p5⟩ | ⟨C5, M5, a5, b5, bd, fl⟩
  rotate_left
  · have d1 : D9 M5 (uai M5 199 1 1) := D9.uai _
    refine Or.inr ⟨C5, uai M5 199 1 1, ?_, ?_, fl.d9 d1⟩
    · rw [a5, ob_some]
      simp only [lt_eq]
      rw [if_neg (fun y => y True.intro)]
    · rw [b5, ob_some, b_number bd, ob_some]
      simp only [lt_eq]
      rw [ob_some]
      simp only [lt_eq]
      rw [bd.1.l199, cki_1 (by omega) (by omega), cl1, b_sp3 (bd.fr d1) (by omega)]
  rw [a5, ob_some, b5, ob_some]
  simp only [lt_eq]
  rw [if_pos (show ¬ (1 : Int32) = 0 by decide), g5.2.2.2.2.2.2.1, ob_some]
  rcases q_num (F := F) (lo := 1) (hh := 30) (by omega) (by omega) g5 hF with ⟨w, C6, M6, w1, w2, a6, b6, g6, p6⟩ | ⟨C6, M6, a6, b6, bd, fl, h501⟩
  rotate_left
  · have a6' : f_X6_takeNumber F C5 n 1 30 = some (-1, C6) := a6
    have b6' : f_X11_number F M5 197 1 30 = some (1, M6) := b6
    have d1 : D9 M6 (uai M6 199 1 1) := D9.uai _
    refine Or.inr ⟨ui C6 601 r (-1), uai M6 199 1 1, ?_, ?_, (fl.d9 d1).wi hn _⟩
    · rw [a6', ob_some]
      simp only [lt_eq]
      rw [sr_ui, h501, ob_some, si_wr, if_pos rfl]
    · rw [b6', ob_some]
      simp only [lt_eq]
      rw [ob_some]
      simp only [lt_eq]
      rw [bd.1.l199, cki_1 (by omega) (by omega), cl1, b_sp3 (bd.fr d1) (by omega)]
  have a6' : f_X6_takeNumber F C5 n 1 30 = some (nI w, C6) := a6
  have b6' : f_X11_number F M5 197 1 30 = some (nI w, M6) := b6
  have g7 := (g6.wi (g := 601) (Or.inr rfl) (nI w)).up 1 (nI w)
  rw [a6', ob_some, b6', ob_some]
  simp only [lt_eq]
  rw [ob_some]
  simp only [lt_eq]
  rw [g6.2.2.2.2.2.2.2.2.1.1.l199, cki_1 (by omega) (by omega), cl1, sr_ui, g6.2.2.2.2.2.2.1, ob_some, si_wr, if_neg (nI_nm (by omega))]
  have c7 : si (ui C6 601 r (nI w)) 601 r = nI w := by rw [si_ui, if_pos ⟨rfl, rfl⟩]
  have c7' : si (ui C6 601 r (nI w)) 600 r = nI v := by
    rw [si_ui, if_neg (by omega), (p6.1 r (by omega)).1, (p5.1 r (by omega)).1]
    exact c4
  generalize ui C6 601 r (nI w) = C7 at *
  generalize uai M6 199 1 (nI w) = M7 at *
  obtain ⟨D7, hD7⟩ : ∃ D7, D7 = upd (upd D 0 (nI v)) 1 (nI w) := ⟨_, rfl⟩
  rw [← hD7] at g7
  have e0 : D7 0 = nI v := by rw [hD7, upd_n (by omega), upd_e]
  have e1 : D7 1 = nI w := by rw [hD7, upd_e]
  have i0 := isCnt_nI (b := 30) e0 (by omega) (by omega)
  have i1 := isCnt_nI (b := 30) e1 (by omega) (by omega)
  have g8 := Go.of g7 ⟨by rw [e0]; exact c7', by rw [e1]; exact c7⟩ (fun k a b => by rw [hD7, upd_n (by omega), upd_n (by omega)]; exact hD k b) ⟨i0.1, i1.1, by rw [i1.2]; exact w1⟩ hR
  obtain ⟨h1, h2, h3, h4, h5, h6, h7, h8, h9, h10, h11⟩ := g8.2.1
  have tk := e_takeSy (F := F) h1 h2 h3 h5 h7 59 hF
  unfold sp3 f_X11_load_L117
  rw [g_isSy h11, ob_some]
  simp only [lt_eq]
  generalize nxK f L (nxK f L (nxK f L (nxK f L (nxK f L s)))) = t at *
  by_cases z : isSy f L t 59
  · obtain ⟨C8, a1, a2, a3⟩ := tk.1 z
    obtain ⟨M8, b1, b2, b3⟩ := g_goOn (F := F) h11 hF
    refine Or.inl ⟨_, C8, M8, _, ?_, ?_, g8.nx a2 a3 b2 b3⟩
    · rw [a1, ob_some]
      simp only [lt_eq]
      rw [if_neg (show ¬ (1 : Int32) = 0 by decide)]
    · rw [pI_t z, if_pos (show ¬ (1 : Int32) = 0 by decide), b1, ob_some]
  · have fl := g8.fail (c := 1) (by decide) (Mf.rf _)
    obtain ⟨fu, hfu⟩ : ∃ f', F = f' + 1 := ⟨F - 1, by omega⟩
    refine Or.inr ⟨_, _, ?_, ?_, fl.2⟩
    · rw [tk.2 z, ob_some]
      simp only [lt_eq]
      rw [if_pos True.intro]
    · rw [pI_f z, if_neg (fun y => y rfl), g_errs h11, ob_some, b_goOn fl.1, ob_some, hfu, b_121' fl.1]
end Sp
