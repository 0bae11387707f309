/-! the spool's statement, and load: one side -/
def Gs1 (f : Nat → Int32) (L n r : Nat) (C0 C : St) (s : Nat) : Prop :=
  FxF C ∧ Inp C f L ∧ 197 ≤ n ∧ n < r ∧ sr C 500 n = some 20 ∧ sr C 501 n = some r ∧ TokC f L C n s ∧ (si C 502 n = 0 ∧ si C 503 n = -1) ∧ Rf n r C0 C
section Sp1
variable {F : Nat} {f : Nat → Int32} {D : PD} {L n r s : Nat} {C0 C C' : St}
theorem Gs1.nx (g : Gs1 f L n r C0 C s) {s' : Nat} (p : PaF n C C') (t : TokC f L C' n s') : Gs1 f L n r C0 C' s' := by
  obtain ⟨h1, h2, h3, h4, h5, h6, h7, ⟨e2, e3⟩, rf⟩ := g
  exact ⟨p.fx h3 h1, p.inp h3 h2, h3, h4, (p.2.1 500 (by omega)).trans h5, (p.2.1 501 (by omega)).trans h6, t, ⟨(p.2.2.1 502 (by omega) (by omega)).trans e2, (p.2.2.1 503 (by omega) (by omega)).trans e3⟩, rf.pa p⟩
theorem Gs1.fail (g : Gs1 f L n r C0 C s) (c : Nat) : Fl1 n C0 (flC C n s (nI c)) c s := by
  obtain ⟨h1, h2, h3, h4, h5, h6, h7, ⟨e2, e3⟩, rf⟩ := g
  have fr := rf.fr h4
  refine ⟨?_, ?_, fun k hk => (fr k hk).tr ((SameO.ui _ (by omega)).tr (SameO.ui _ (by omega))), h5⟩
  · unfold flC; rw [si_ui, if_neg (by omega), si_ui, if_pos ⟨rfl, rfl⟩]
  · unfold flC; rw [si_ui, if_pos ⟨rfl, rfl⟩]
theorem Fl1.wi {c t : Nat} (h : Fl1 n C0 C c t) (hn : n < r) {g : Nat} (v : Int32) : Fl1 n C0 (ui C g r v) c t := by
  obtain ⟨a2, a3, fr, h5⟩ := h
  exact ⟨by rw [si_ui, if_neg (by omega)]; exact a2, by rw [si_ui, if_neg (by omega)]; exact a3, fun k hk => (fr k hk).tr (SameO.ui _ (by omega)), h5⟩
theorem Gs1.wi (h : Gs1 f L n r C0 C s) {g : Nat} (hg : g = 600 ∨ g = 601) (v : Int32) : Gs1 f L n r C0 (ui C g r v) s := by
  obtain ⟨h1, h2, h3, h4, h5, h6, h7, ⟨e2, e3⟩, rf⟩ := h
  have sm : ∀ k, ¬ k = r → SameO C (ui C g r v) k := fun k hk => SameO.ui _ hk
  have sn : ∀ x, si (ui C g r v) x n = si C x n := fun x => (sm n (by omega)).1 x
  refine ⟨h1.same (fun i hi => sm i (by omega)), ⟨h2.1, ((sm 20 (by omega)).1 1).trans h2.2.1, h2.2.2⟩, h3, h4, h5, h6, ?_, ⟨(sn _).trans e2, (sn _).trans e3⟩, fun k hk => ?_⟩
  · unfold TokC at h7 ⊢
    rw [sn, sn, sn, sn]
    exact h7
  · obtain ⟨a1, a2⟩ := rf k hk
    refine ⟨fun x hx => ?_, a2⟩
    rw [si_ui, if_neg (by omega)]
    exact a1 x hx
theorem q_tx {j : Nat} (hj : j < 15) (g : Gs1 f L n r C0 C s) (hF : 10000 ≤ F) : (∃ C', f_X6_take F C n j = some (1, C') ∧ Gs1 f L n r C0 C' (nxE f L s) ∧ PaF n C C' ∧ ∀ k, pTx f L j s k = k (nxE f L s)) ∨ (∃ C', f_X6_take F C n j = some (0, C') ∧ Fl1 n C0 C' 1 s ∧ ∀ k, pTx f L j s k = pEr 1 s) := by
  obtain ⟨h1, h2, h3, h4, h5, h6, h7, -, -⟩ := id g
  by_cases z : isTx f L s j
  · obtain ⟨C', a1, a2, a3⟩ := (e_take (F := F) h1 h2 h3 h5 h7 hj hF).1 z
    rw [nx_E] at a3
    exact Or.inl ⟨C', a1, g.nx a2 a3, a2, fun k => if_pos (tx_E.mpr z)⟩
  · exact Or.inr ⟨_, (e_take (F := F) h1 h2 h3 h5 h7 hj hF).2 z, g.fail 1, fun k => if_neg (fun y => z (tx_E.mp y))⟩
theorem q_nu {lo hh : Nat} (hh9 : hh ≤ 99999) (hlo : lo ≤ 99999) (g : Gs1 f L n r C0 C s) (hF : 10000 ≤ F) : (∃ v C', lo ≤ v ∧ v ≤ hh ∧ f_X6_takeNumber F C n (nI lo) (nI hh) = some (nI v, C') ∧ Gs1 f L n r C0 C' (nxE f L s) ∧ PaF n C C' ∧ ∀ k, pNu f L lo hh s k = k v (nxE f L s)) ∨ (∃ c C', ¬ c = 0 ∧ f_X6_takeNumber F C n (nI lo) (nI hh) = some (-1, C') ∧ Fl1 n C0 C' c s ∧ sr C' 501 n = some r ∧ ∀ k, pNu f L lo hh s k = pEr c s) := by
  obtain ⟨h1, h2, h3, h4, h5, h6, h7, -, -⟩ := id g
  have h8 : ∀ i, i < L → (f i).toInt8.toInt32 = f i := fun i h => (h2.2.2 i h).2
  have nu := fun v => nu_E (f := f) (L := L) (s := s) (lo := lo) (v := v) h8 hh9
  by_cases z : ∃ v, nuOk f L s lo hh v
  · obtain ⟨v, z⟩ := z
    obtain ⟨C', a1, a2, a3⟩ := (e_takeNu (F := F) h1 h2 h3 h5 h7 (lo := lo) hh9 hF).1 v z
    rw [nx_E] at a3
    obtain ⟨y1, y2, y3, y4⟩ := (nu v).mp z
    refine Or.inl ⟨v, C', y3, y4, a1, g.nx a2 a3, a2, fun k => ?_⟩
    unfold pNu
    rw [if_pos y1, y2, if_pos ⟨y3, y4⟩]
  · have z' : ∀ v, ¬ nuOk f L s lo hh v := fun v y => z ⟨v, y⟩
    have a := (e_takeNu (F := F) h1 h2 h3 h5 h7 hh9 hF).2 z' hlo
    rw [kd_E] at a
    by_cases y : kdE f L s = 2
    · rw [if_pos y] at a
      refine Or.inr ⟨2, _, by omega, a, g.fail 2, h6, fun k => ?_⟩
      unfold pNu
      rw [if_pos y, if_neg (fun x => z' _ ((nu _).mpr ⟨y, rfl, x.1, x.2⟩))]
    · rw [if_neg y] at a
      exact Or.inr ⟨1, _, by omega, a, g.fail 1, h6, fun k => if_neg y⟩
theorem Go1.of (g : Gs1 f L n r C0 C s) (h6 : si C 600 r = D 0 ∧ si C 601 r = D 1) (hD : ∀ k, 2 ≤ k → k < 6391 → D k = 0) (b : isCnt D 0 30 ∧ isCnt D 1 30 ∧ 1 ≤ kN D 1) (hR : ruZ C0 r) : Go1 f L n r C0 D C s := by
  obtain ⟨h1, h2, h3, h4, h5, h6', h7, ⟨e2, e3⟩, rf⟩ := g
  obtain ⟨ru, z1, z2, z3, z4⟩ := hR
  have k0 : ∀ k, 2 ≤ k → k < 6391 → kN D k = 0 := fun k a c => by unfold kN; rw [hD k a c]; rfl
  have cn : ∀ k c, 2 ≤ k → k < 6391 → isCnt D k c := fun k c a y => ⟨by rw [k0 k a y, hD k a y]; rfl, by rw [k0 k a y]; omega⟩
  refine ⟨⟨h1, h2, h3, h4, h5, h6', h7, ?_, ?_, ?_⟩, ⟨b, ⟨hD 2 (by omega) (by omega), fun k a c => hD k (by omega) (by omega), fun k a c => hD k (by omega) c⟩, fun x hx => ?_⟩, e2, e3, rf.fr h4⟩
  · refine ⟨⟨fun q hq => by rw [(rf _ (by omega)).2.1]; exact ru.1 q hq, fun q hq => by rw [(rf _ (by omega)).2.2.2.2.2]; exact ru.2 q hq⟩, ⟨h6.1, h6.2, ?_, ?_, ?_, ?_⟩, fun x hx => ?_, fun x hx => ?_, fun x hx => ?_, fun x hx => ?_⟩
    · rw [(rf _ (by omega)).1 _ (by omega), z1, hD 3 (by omega) (by omega)]
    · rw [(rf _ (by omega)).1 _ (by omega), z2, hD 4 (by omega) (by omega)]
    · rw [(rf _ (by omega)).1 _ (by omega), z3, hD 5 (by omega) (by omega)]
    · rw [(rf _ (by omega)).1 _ (by omega), z4, hD 6 (by omega) (by omega)]
    · rw [k0 3 (by omega) (by omega)] at hx; omega
    · rw [k0 4 (by omega) (by omega)] at hx; omega
    · rw [k0 5 (by omega) (by omega)] at hx; omega
    · rw [k0 6 (by omega) (by omega)] at hx; omega
  · exact ⟨cn _ _ (by omega) (by omega), cn _ _ (by omega) (by omega), cn _ _ (by omega) (by omega), cn _ _ (by omega) (by omega)⟩
  · refine ⟨fun x hx => ?_, fun x hx => ?_, fun x hx => ?_, fun x hx => ?_, fun x hx => ?_⟩
    · rw [k0 3 (by omega) (by omega)] at hx; omega
    · rw [k0 4 (by omega) (by omega)] at hx; omega
    · rw [k0 5 (by omega) (by omega)] at hx; omega
    · rw [k0 6 (by omega) (by omega)] at hx; omega
    · rw [k0 4 (by omega) (by omega)] at hx; omega
  · rw [k0 6 (by omega) (by omega)] at hx; omega
/-- the whole text, from its first token on -/
def pSp (f : Nat → Int32) (L s : Nat) : PR := pTx f L 0 s fun s1 => pTx f L 1 s1 fun s2 => pNu f L 0 30 s2 fun v s3 => pTx f L 2 s3 fun s4 => pNu f L 1 30 s4 fun w s5 => pSy f L 59 s5 fun s6 => some (.inr (s6, upd (upd (fun _ => 0) 0 (nI v)) 1 (nI w)))
theorem p_spool (g : Gs1 f L n r C0 C s) (hR : ruZ C0 r) (hF : 10000 ≤ F) : Rd1 f L n r C0 (f_X6_spoolStatement F C n) (pSp f L s) := by
  have hn := g.2.2.2.1
  have er : ∀ {a : Option (Int32 × St)} {c t : Nat} {C1 : St}, ¬ c = 0 → a = some (0, C1) → Fl1 n C0 C1 c t → Rd1 f L n r C0 a (pEr c t) := fun hc e fl => ⟨hc, _, e, fl⟩
  unfold f_X6_spoolStatement pSp
  rcases q_tx (F := F) (j := 0) (by omega) g hF with ⟨C1, a1, g1, p1, e1⟩ | ⟨C1, a1, fl, e1⟩
  rotate_left
  · rw [e1, a1, ob_some]
    simp only [lt_eq]
    rw [if_pos True.intro]
    exact er (by omega) rfl fl
  rw [e1, a1, ob_some]
  simp only [lt_eq]
  rw [if_neg (show ¬ (1 : Int32) = 0 by decide)]
  rcases q_tx (F := F) (j := 1) (by omega) g1 hF with ⟨C2, a2, g2, p2, e2⟩ | ⟨C2, a2, fl, e2⟩
  rotate_left
  · rw [e2, a2, ob_some]
    simp only [lt_eq]
    rw [if_neg (fun y => y True.intro)]
    exact er (by omega) rfl fl
  rw [e2, a2, ob_some]
  simp only [lt_eq]
  rw [if_pos (show ¬ (1 : Int32) = 0 by decide), g2.2.2.2.2.2.1, ob_some]
  rcases q_nu (F := F) (lo := 0) (hh := 30) (by omega) (by omega) g2 hF with ⟨v, C3, v1, v2, a3, g3, p3, e3⟩ | ⟨c', C3, c0, a3, fl, h501, e3⟩
  rotate_left
  · have a3' : f_X6_takeNumber F C2 n 0 30 = some (-1, C3) := a3
    rw [e3, a3', ob_some]
    simp only [lt_eq]
    rw [sr_ui, h501, ob_some, si_wr, if_pos rfl]
    exact er c0 rfl (fl.wi hn _)
  have a3' : f_X6_takeNumber F C2 n 0 30 = some (nI v, C3) := a3
  have g4 := g3.wi (g := 600) (Or.inl rfl) (nI v)
  rw [e3, a3', ob_some]
  simp only [lt_eq]
  rw [sr_ui, g3.2.2.2.2.2.1, ob_some, si_wr, if_neg (nI_nm (by omega))]
  have c4 : si (ui C3 600 r (nI v)) 600 r = nI v := by rw [si_ui, if_pos ⟨rfl, rfl⟩]
  generalize ui C3 600 r (nI v) = C4 at *
  rcases q_tx (F := F) (j := 2) (by omega) g4 hF with ⟨C5, a5, g5, p5, e5⟩ | ⟨C5, a5, fl, e5⟩
  rotate_left
  · rw [e5, a5, ob_some]
    simp only [lt_eq]
    rw [if_neg (fun y => y True.intro)]
    exact er (by omega) rfl fl
  rw [e5, a5, ob_some]
  simp only [lt_eq]
  rw [if_pos (show ¬ (1 : Int32) = 0 by decide), g5.2.2.2.2.2.1, ob_some]
  rcases q_nu (F := F) (lo := 1) (hh := 30) (by omega) (by omega) g5 hF with ⟨w, C6, w1, w2, a6, g6, p6, e6⟩ | ⟨c', C6, c0, a6, fl, h501, e6⟩
  rotate_left
  · have a6' : f_X6_takeNumber F C5 n 1 30 = some (-1, C6) := a6
    rw [e6, a6', ob_some]
    simp only [lt_eq]
    rw [sr_ui, h501, ob_some, si_wr, if_pos rfl]
    exact er c0 rfl (fl.wi hn _)
  have a6' : f_X6_takeNumber F C5 n 1 30 = some (nI w, C6) := a6
  have g7 := g6.wi (g := 601) (Or.inr rfl) (nI w)
  rw [e6, a6', ob_some]
  simp only [lt_eq]
  rw [sr_ui, g6.2.2.2.2.2.1, ob_some, si_wr, if_neg (nI_nm (by omega))]
  have c7 : si (ui C6 601 r (nI w)) 601 r = nI w := by rw [si_ui, if_pos ⟨rfl, rfl⟩]
  have c7' : si (ui C6 601 r (nI w)) 600 r = nI v := by
    rw [si_ui, if_neg (by omega), (p6.1 r (by omega)).1, (p5.1 r (by omega)).1]
    exact c4
  generalize ui C6 601 r (nI w) = C7 at *
  obtain ⟨D7, hD7⟩ : ∃ D7 : PD, D7 = upd (upd (fun _ => 0) 0 (nI v)) 1 (nI w) := ⟨_, rfl⟩
  rw [← hD7]
  have e0 : D7 0 = nI v := by rw [hD7, upd_n (by omega), upd_e]
  have e1 : D7 1 = nI w := by rw [hD7, upd_e]
  have i0 := isCnt_nI (b := 30) e0 (by omega) (by omega)
  have i1 := isCnt_nI (b := 30) e1 (by omega) (by omega)
  have g8 := Go1.of g7 ⟨by rw [e0]; exact c7', by rw [e1]; exact c7⟩ (fun k a b => by rw [hD7, upd_n (by omega), upd_n (by omega)]) ⟨i0.1, i1.1, by rw [i1.2]; exact w1⟩ hR
  rcases g_sy (F := F) g8 hF with ⟨C8, a8, g9, l8, e8⟩ | ⟨C8, a8, fl, e8⟩
  · rw [e8, a8, ob_some]
    simp only [lt_eq]
    rw [if_neg (show ¬ (1 : Int32) = 0 by decide)]
    exact ⟨C8, rfl, g9⟩
  · rw [e8, a8, ob_some]
    simp only [lt_eq]
    rw [if_pos True.intro]
    exact er (by omega) rfl fl
/-- what a text asks for -/
def pTe (f : Nat → Int32) (L : Nat) : PR := match pSp f L (nbE f L 0) with
  | some (.inr (s, D)) => pLo f L L D s
  | x => x
theorem p_parse (g : Gs1 f L n r C0 C (nbE f L 0)) (hR : ruZ C0 r) (hF : 10000 ≤ F) : Rd1 f L n r C0 (Option.bind (f_X6_spoolStatement F C n) fun z77 => f_X6_parse_L11 F F z77.2 n z77.1 0) (pTe f L) := by
  have sp := p_spool (F := F) g hR hF
  have hL := g.2.1.1
  unfold pTe
  generalize pSp f L (nbE f L 0) = x at *
  match x, sp with
  | none, _ => trivial
  | some (.inl (c, t)), sp =>
    obtain ⟨hc, C', e, fl⟩ := sp
    refine ⟨hc, C', ?_, fl⟩
    obtain ⟨fu, hfu⟩ : ∃ f', F = f' + 1 := ⟨F - 1, by omega⟩
    rw [e, ob_some]
    simp only []
    conv => lhs; arg 2; rw [hfu]
    unfold f_X6_parse_L11
    rw [fl.2.2.2, ob_some, ck_t (Or.inl rfl), if_pos rfl]
    by_cases y : si C' 1 20 ≤ 0
    · rw [if_pos y]
    · rw [if_neg y]
  | some (.inr (s', D')), sp =>
    obtain ⟨C', e, g'⟩ := sp
    rw [e, ob_some]
    exact p_loop hF L F C' s' D' 0 (by omega) (by omega) (by omega) g'
end Sp1
/-! load -/
section Ld1
variable {F : Nat} {f : Nat → Int32} {L n h ff : Nat} {S : St} {Ns Bs : Nat → Nat → Int32} {N B : Nat → Int32}
theorem RC.lift {S T : St} {n n' h f : Nat} {Ns Bs : Nat → Nat → Int32} {N B : Nat → Int32} (c : RC S n h f Ns Bs N B) (hn : n ≤ n') (e : ∀ i, (1 ≤ i ∧ i ≤ 19) ∨ (27 ≤ i ∧ i ≤ 43) ∨ (69 ≤ i ∧ i ≤ 195) ∨ (197 ≤ i ∧ i < n) → SameO S T i) (z1 : si T 909 0 = si S 909 0) (z2 : si T 908 0 = si S 908 0) (e1 : ∀ g i, i < 197 → sr T g i = sr S g i) (e2 : ∀ i, i < 197 → ln T i = ln S i) : RC T n' h f Ns Bs N B := by
  have := c.1
  exact ⟨by omega, c.2.1.agr (fun f i _ hi => e1 f i hi) (fun i hi => e2 i hi) (e 69 (by omega)).2.2.2.2.1, c.2.2.1.agr hn (fun i hi => e i (by omega)) z1 z2, c.2.2.2.agr hn (fun i hi => e i (by omega))⟩
theorem e_cutA {T : St} {K : Nat} (l20 : si T 1 20 = nI K) (hK : K ≤ 1200) : ∃ T3, f_X0_cutTo F T 20 0 = some T3 ∧ si T3 1 20 = 0 ∧ (∀ k, ¬ k = 20 → SameO T T3 k) ∧ sr T3 = sr T ∧ ln T3 = ln T := by
  unfold f_X0_cutTo
  rw [if_neg (by decide), l20]
  by_cases z : K = 0
  · rw [z, if_pos (show nI 0 ≤ 0 by decide)]
    exact ⟨T, rfl, by rw [l20, z]; rfl, fun k _ => SameO.rf _ _, rfl, rfl⟩
  · rw [if_neg (nI_nle (by omega) (by omega))]
    exact ⟨_, rfl, by rw [si_ui, if_pos ⟨rfl, rfl⟩], fun k a => SameO.ui _ a, rfl, rfl⟩
def ldG (F : Nat) (C2 : St) (n n11 : Nat) : Option (Int32 × St × Nat) := Option.bind (f_X10_remember F C2 0) fun S28 =>
  Option.bind (sr S28 905 0) fun j31 =>
  Option.bind (sr S28 501 n) fun j32 =>
  Option.bind (f_X8_startWith F S28 j31 j32) fun S34 =>
  Option.bind (sr S34 905 0) fun j37 =>
  Option.bind (sr S34 700 j37) fun j38 =>
  Option.bind (sr S34 606 j38) fun j39 =>
  some (si S34 401 j39, S34, n11)
theorem e_pre2 {C0 C' : St} {a : Int32} {K : Nat} (hS : sr S 900 0 = some 20) (h0n : 0 < n) (i1 : f_X6_init F (nob S n) (n + 1) n 20 = some (C0, n + 20)) (hc : f_X6_parse F C0 n = some (a, C')) (hx : FxF C') (l20 : si C' 1 20 = nI K) (hK : K ≤ 1200) (h20 : ¬ n = 20) :
    ∃ C2, f_X10_load F S n 0 = (if ¬ a = 0 then ldG F C2 n (n + 20) else some (-4, C2, n + 20)) ∧ si C2 1 20 = 0 ∧ si C2 903 0 = si C' 502 n ∧ si C2 904 0 = si C' 503 n ∧ (∀ k, ¬ k = 0 → ¬ k = 20 → SameO C' C2 k) ∧ (∀ g, ¬ g = 903 → ¬ g = 904 → si C2 g 0 = si C' g 0) ∧ sr C2 = sr C' ∧ ln C2 = ln C' := by
  obtain ⟨C1, c1, c2, c3, c4, c5⟩ := e_cutA (F := F) l20 hK
  refine ⟨ui (ui C1 903 0 (si C1 502 n)) 904 0 (si (ui C1 903 0 (si C1 502 n)) 503 n), ?_, ?_, ?_, ?_, fun k a b => ((c3 k b).tr (SameO.ui _ a)).tr (SameO.ui _ a), fun g a b => ?_, ?_, ?_⟩
  · unfold f_X10_load ldG
    simp only [lt_eq]
    rw [sr_nob, if_neg (by omega), hS, ob_some, i1, ob_some]
    simp only []
    rw [hc, ob_some]
    simp only []
    rw [hx.r900_0, ob_some, c1, ob_some]
  · rw [si_ui, if_neg (by omega), si_ui, if_neg (by omega)]; exact c2
  · rw [si_ui, if_neg (by omega), si_ui, if_pos ⟨rfl, rfl⟩, (c3 n h20).1]
  · rw [si_ui, if_pos ⟨rfl, rfl⟩, si_ui, if_neg (by omega), (c3 n h20).1]
  · rw [si_ui, if_neg (by omega), si_ui, if_neg (by omega), (c3 0 (by omega)).1]
  · rw [sr_ui, sr_ui, c4]
  · rw [ln_ui, ln_ui, c5]
/-- what load does -/
def Lo1 (S : St) (n h ff : Nat) (Ns Bs : Nat → Nat → Int32) (N B : Nat → Int32) (a : Option (Int32 × St × Nat)) : PR → Prop
  | none => True
  | some (.inl (c, t)) => ∃ T, a = some (-4, T, n + 20) ∧ RC T (n + 20) h ff Ns Bs N B ∧ (si T 903 0 = nI c ∧ si T 904 0 = nI t ∧ si T 1 20 = 0) ∧ ∀ k, 197 ≤ k → k < n → SameO S T k
  | some (.inr (_, D)) => ∃ T, a = some (nI (kN D 4), T, n + 20) ∧ RC T (n + 20) (hN h) (fN h ff) (setF Ns (tN h ff) N) (setF Bs (tN h ff) B) D B ∧ (si T 903 0 = 0 ∧ si T 904 0 = -1 ∧ si T 1 20 = 0) ∧ (∀ k, 197 ≤ k → k < n → SameO S T k) ∧ Zd D
theorem e_load (rc : RC S n h ff Ns Bs N B) (hi : Inp S f L) (hF : 100000 ≤ F) : Lo1 S n h ff Ns Bs N B (f_X10_load F S n 0) (pTe f L) := by
  obtain ⟨hn, hx, hc, cl⟩ := id rc
  obtain ⟨C0, i1, i2, i3, i4, i5, i6, i7, i8⟩ := e_parser F S n
  have hx0 : FxF C0 := hx.same (fun i a => i3 i (by omega))
  have hi0 : Inp C0 f L := ⟨hi.1, ((i3 20 (by omega)).1 1).trans hi.2.1, fun i a => by rw [(i3 21 (by omega)).row]; exact hi.2.2 i a⟩
  obtain ⟨C1, t1, t2, t3⟩ := e_next (F := F) (p := 0) hx0 hi0 (n := n) hn i4 (by omega) i8 (by omega)
  rw [nb_E] at t3
  have g1 : Gs1 f L n (n + 1) C0 C1 (nbE f L 0) := ⟨t2.fx hn hx0, t2.inp hn hi0, hn, by omega, (t2.2.1 500 (by omega)).trans i4, (t2.2.1 501 (by omega)).trans i5, t3, ⟨(t2.2.2.1 502 (by omega) (by omega)).trans i6, (t2.2.2.1 503 (by omega) (by omega)).trans i7⟩, fun k hk => by
    obtain ⟨b1, b2, b3, b4, b5, b6⟩ := t2.1 k hk
    exact ⟨fun g _ => b1 g, b2, b3, b4, b5, b6⟩⟩
  have pp := p_parse (F := F) g1 i2 (by omega)
  have pe : f_X6_parse F C0 n = Option.bind (f_X6_spoolStatement F C1 n) fun z77 => f_X6_parse_L11 F F z77.2 n z77.1 0 := by
    unfold f_X6_parse
    rw [t1, ob_some]
    rfl
  rw [← pe] at pp
  generalize pTe f L = x at *
  match x, pp with
  | none, _ => trivial
  | some (.inl (c, t)), pp =>
    obtain ⟨hc0, C', e, fl⟩ := pp
    have so1 : ∀ k, k < n → SameO S C' k := fun k hk => (i3 k hk).tr (fl.2.2.1 k hk)
    have hx1 : FxF C' := hx.same (fun i a => so1 i (by omega))
    obtain ⟨C2, l1, l2, l3, l4, l5, l6, l7, l8⟩ := e_pre2 (F := F) (S := S) hx.r900_0 (by omega) i1 e hx1 (((so1 20 (by omega)).1 1).trans hi.2.1) hi.1 (by omega)
    rw [if_neg (fun y => y rfl)] at l1
    have so2 : ∀ k, k < n → ¬ k = 0 → ¬ k = 20 → SameO S C2 k := fun k a b c => (so1 k a).tr (l5 k b c)
    exact ⟨C2, l1, rc.lift (by omega) (fun k hk => so2 k (by omega) (by omega) (by omega)) (by rw [l6 _ (by omega) (by omega)]; exact (so1 0 (by omega)).1 _) (by rw [l6 _ (by omega) (by omega)]; exact (so1 0 (by omega)).1 _) (fun g k hk => by rw [l7]; exact (so1 k (by omega)).2.1 g) (fun k hk => by rw [l8]; exact (so1 k (by omega)).2.2.2.2.2), ⟨l3.trans fl.1, l4.trans fl.2.1, l2⟩, fun k a b => so2 k b (by omega) (by omega)⟩
  | some (.inr (s, D1)), pp =>
    obtain ⟨C', e, g⟩ := pp
    have fr : ∀ k, k < n → SameO C0 C' k := g.2.2.2.2
    have so1 : ∀ k, k < n → SameO S C' k := fun k hk => (i3 k hk).tr (fr k hk)
    have hx1 : FxF C' := hx.same (fun i a => so1 i (by omega))
    obtain ⟨C2, l1, l2, l3, l4, l5, l6, l7, l8⟩ := e_pre2 (F := F) (S := S) hx.r900_0 (by omega) i1 e hx1 (((so1 20 (by omega)).1 1).trans hi.2.1) hi.1 (by omega)
    rw [if_pos (show ¬ (1 : Int32) = 0 by decide)] at l1
    have so2 : ∀ k, k < n → ¬ k = 0 → ¬ k = 20 → SameO S C2 k := fun k a b c => (so1 k a).tr (l5 k b c)
    have rc2 : RC C2 (n + 20) h ff Ns Bs N B := rc.lift (by omega) (fun k hk => so2 k (by omega) (by omega) (by omega)) (by rw [l6 _ (by omega) (by omega)]; exact (so1 0 (by omega)).1 _) (by rw [l6 _ (by omega) (by omega)]; exact (so1 0 (by omega)).1 _) (fun g k hk => by rw [l7]; exact (so1 k (by omega)).2.1 g) (fun k hk => by rw [l8]; exact (so1 k (by omega)).2.2.2.2.2)
    obtain ⟨C3, t1', tr2, -, -, -, -, -⟩ := rc2.rem (F := F) (by omega)
    obtain ⟨C3', v1, -, v3, v4, v5, -, -, -, v9⟩ := e_remember (F := F) rc2.2.1 rc2.2.2.1 rc2.2.2.2 (by omega)
    obtain rfl : C3' = C3 := by rw [t1'] at v1; exact (Option.some.inj v1).symm
    have tl := tN_lt h ff
    have so3 : ∀ k, ¬ k = 0 → ¬ k = 20 → ¬ (70 ≤ k ∧ k ≤ 195) → SameO C' C3' k := fun k a b c => (l5 k a b).tr (v3 k a (by omega))
    have hx3 := tr2.2.1
    have R1 := g.cr
    have cn1 := g.cn
    have b6 := cn1.2.2.2.2
    have R3 : CR C3' (n + 1) D1 := R1.agr (fun k a b => so3 k (by omega) (by omega) (by omega))
    obtain ⟨C4, w1, w2, w3, w4, w5, w6, w7, w8, w9, w10⟩ := e_start (F := F) (T := C3') (r := n + 1) (k := kN D1 6) hx3.sp27 R3.1 (by omega) (R3.2.1.2.2.2.2.2.trans cn1.2.2.2.1) b6
    have hx4 : FxF C4 := hx3.agr (fun g k a _ => w8 g k (fun z => a z.1)) (fun k _ => by rw [w9]) (by rw [w10])
    have so4 : ∀ k, ¬ k = 0 → ¬ k = 20 → ¬ (70 ≤ k ∧ k ≤ 195) → ¬ (27 ≤ k ∧ k ≤ 40) → SameO C' C4 k := fun k a b c d => (so3 k a b c).tr (w7 k d)
    have R4 : CR C4 (n + 1) D1 := R1.agr (fun k a b => so4 k (by omega) (by omega) (by omega) (by omega))
    have hc' : f_X10_load F S n 0 = some (si C4 401 (n + 1 + 6), C4, n + 20) := by
      rw [l1]
      unfold ldG
      rw [t1', ob_some, hx3.r905_0, ob_some, (so3 n (by omega) (by omega) (by omega)).2.1, g.p501, ob_some, w1, ob_some, hx4.r905_0, ob_some, w2, ob_some, R4.1.r606_0, ob_some]
    obtain ⟨z1, z2, z3, z4, z5⟩ := g.1.2.2.2.2.2.2.2.2.2
    have cl4 : Cl C4 (n + 20) 27 D1 B := Cl_fresh (r := n + 1) w2 ⟨by omega, by omega⟩ R4 cn1 ⟨z1, z2, z3, z4⟩ g.2.1 w3 (fun u hu => by rw [w4 u (by have := cn1.2.1.2; omega), (so3 (n + 1 + 9) (by omega) (by omega) (by omega)).row]; exact z5 u hu) w5 w6
    have rc4 : RC C4 (n + 20) (hN h) (fN h ff) (setF Ns (tN h ff) N) (setF Bs (tN h ff) B) D1 B := ⟨by omega, hx4, tr2.2.2.1.agr (Nat.le_refl _) (fun k hk => w7 k (by omega)) ((w7 0 (by omega)).1 _) ((w7 0 (by omega)).1 _), cl4⟩
    have z0 : ∀ g, ¬ g = 908 → ¬ g = 909 → si C4 g 0 = si C2 g 0 := fun g a b => by
      rw [(w7 0 (by omega)).1]
      exact v4 g a b
    refine ⟨C4, ?_, rc4, ⟨?_, ?_, ?_⟩, fun k a b => (so1 k b).tr (so4 k (by omega) (by omega) (by omega) (by omega)), g.2.1⟩
    · rw [hc', R4.2.1.2.2.2.1, cn1.2.1.1]
    · rw [z0 903 (by omega) (by omega), l3]; exact g.2.2.1
    · rw [z0 904 (by omega) (by omega), l4]; exact g.2.2.2.1
    · rw [(w7 20 (by omega)).1, (v3 20 (by omega) (by omega)).1]; exact l2
end Ld1
