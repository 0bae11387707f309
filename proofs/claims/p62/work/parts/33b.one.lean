/-! the class reads: one side -/
def Sm (f : Nat → Int32) (L n r : Nat) (D : PD) (C : St) (s : Nat) : Prop :=
  FxF C ∧ Inp C f L ∧ 197 ≤ n ∧ n < r ∧ sr C 500 n = some 20 ∧ sr C 501 n = some r ∧ TokC f L C n s ∧ CR C r D ∧ cnD D ∧ (wC D ∧ wU D ∧ wG D ∧ wH D ∧ ∀ u, u < kN D 4 → ai C (r + 9) u = D (84 + 8 * u))
def Go1 (f : Nat → Int32) (L n r : Nat) (C0 : St) (D : PD) (C : St) (s : Nat) : Prop := Sm f L n r D C s ∧ Zd D ∧ si C 502 n = 0 ∧ si C 503 n = -1 ∧ ∀ k, k < n → SameO C0 C k
def Fl1 (n : Nat) (C0 C : St) (c t : Nat) : Prop := si C 502 n = nI c ∧ si C 503 n = nI t ∧ (∀ k, k < n → SameO C0 C k) ∧ sr C 500 n = some 20
section O1
variable {F : Nat} {f : Nat → Int32} {D : PD} {L n r s : Nat} {C0 C C' : St}
theorem Go1.tk (g : Go1 f L n r C0 D C s) : TokC f L C n s := g.1.2.2.2.2.2.2.1
theorem Go1.le (g : Go1 f L n r C0 D C s) : s ≤ L := g.tk.1
theorem Go1.cr (g : Go1 f L n r C0 D C s) : CR C r D := g.1.2.2.2.2.2.2.2.1
theorem Go1.ru (g : Go1 f L n r C0 D C s) : RuF C r := g.cr.1
theorem Go1.cn (g : Go1 f L n r C0 D C s) : cnD D := g.1.2.2.2.2.2.2.2.2.1
theorem Go1.p501 (g : Go1 f L n r C0 D C s) : sr C 501 n = some r := g.1.2.2.2.2.2.1
theorem Go1.p500 (g : Go1 f L n r C0 D C s) : sr C 500 n = some 20 := g.1.2.2.2.2.1
theorem Go1.hi (g : Go1 f L n r C0 D C s) : Inp C f L := g.1.2.1
theorem Go1.h8 (g : Go1 f L n r C0 D C s) : ∀ i, i < L → (f i).toInt8.toInt32 = f i := fun i h => (g.hi.2.2 i h).2
theorem Go1.nx (g : Go1 f L n r C0 D C s) {s' : Nat} (p : PaF n C C') (t : TokC f L C' n s') : Go1 f L n r C0 D C' s' := by
  obtain ⟨⟨h1, h2, h3, h4, h5, h6, h7, h8, h9, h10⟩, z, e2, e3, fr⟩ := g
  exact ⟨⟨p.fx h3 h1, p.inp h3 h2, h3, h4, (p.2.1 500 (by omega)).trans h5, (p.2.1 501 (by omega)).trans h6, t, h8.agr (fun i a b => p.1 i (by omega)), h9, ⟨h10.1, h10.2.1, h10.2.2.1, h10.2.2.2.1, by rw [p.2.2.2.1]; exact h10.2.2.2.2⟩⟩, z, (p.2.2.1 502 (by omega) (by omega)).trans e2, (p.2.2.1 503 (by omega) (by omega)).trans e3, fun k hk => (fr k hk).tr (p.1 k (by omega))⟩
theorem Go1.fail (g : Go1 f L n r C0 D C s) (c : Nat) : Fl1 n C0 (flC C n s (nI c)) c s := by
  obtain ⟨⟨h1, h2, h3, h4, h5, h6, h7, h8, h9, h10⟩, z, e2, e3, fr⟩ := g
  refine ⟨?_, ?_, fun k hk => (fr k hk).tr ((SameO.ui _ (by omega)).tr (SameO.ui _ (by omega))), h5⟩
  · unfold flC; rw [si_ui, if_neg (by omega), si_ui, if_pos ⟨rfl, rfl⟩]
  · unfold flC; rw [si_ui, if_pos ⟨rfl, rfl⟩]
/-- rows beyond the counts are free -/
theorem Go1.dr (g : Go1 f L n r C0 D C s) {D' : PD} (e : ∀ k, ¬ bey D k → D' k = D k) : Go1 f L n r C0 D' C s := by
  obtain ⟨⟨h1, h2, h3, h4, h5, h6, h7, h8, ⟨c3, c4, c5, c6⟩, ⟨w1, w2, w3, w4, w5⟩⟩, ⟨⟨z1, z2, z3⟩, ⟨z4, z5, z6⟩, z7⟩, e2, e3, fr⟩ := g
  have E : EqX (bey D) D D' := fun k _ _ c => e k c
  have hX : ∀ k, bey D k → (11 + 9 * kN D 3 ≤ k ∧ k < 83) ∨ (83 + 8 * kN D 4 ≤ k ∧ k < 163) ∨ (163 + 7 * kN D 5 ≤ k ∧ k < 205) ∨ (205 + 21 * kN D 6 ≤ k ∧ k < 331) := fun k y => y
  have b3 := c3.2
  have b4 := c4.2
  have b5 := c5.2
  have b6 := c6.2
  have lo : ∀ k, k < 11 ∨ 331 ≤ k → D' k = D k := fun k hk => e k (fun y => by have := hX k y; omega)
  have kn : ∀ k, k < 11 → kN D' k = kN D k := fun k a => by unfold kN; rw [lo k (Or.inl a)]
  have cn : ∀ k b, k < 11 → isCnt D k b → isCnt D' k b := fun k b a y => by
    unfold isCnt at y ⊢
    rw [kn k a, lo k (Or.inl a)]; exact y
  refine ⟨⟨h1, h2, h3, h4, h5, h6, h7, xE_cr E hX b3 b4 b5 b6 w4 h8, ⟨cn _ _ (by omega) c3, cn _ _ (by omega) c4, cn _ _ (by omega) c5, cn _ _ (by omega) c6⟩, ⟨xE_wC E hX b3 b4 b5 b6 w1, xE_wG E hX b3 b4 b5 b6 w3 |> fun _ => xE_wU E hX b3 b4 b5 b6 w2, xE_wG E hX b3 b4 b5 b6 w3, xE_wH E hX b3 b4 b5 b6 w4, fun u hu => ?_⟩⟩, ⟨⟨cn _ _ (by omega) z1, cn _ _ (by omega) z2, by rw [kn 1 (by omega)]; exact z3⟩, ⟨(lo 2 (Or.inl (by omega))).trans z4, fun k a b => (lo k (Or.inl b)).trans (z5 k a b), fun k a b => (lo k (Or.inr a)).trans (z6 k a b)⟩, fun x hx => ?_⟩, e2, e3, fr⟩
  · rw [kn 4 (by omega)] at hu
    rw [e _ (fun z => by have := hX _ z; omega)]
    exact w5 u hu
  · rw [kn 6 (by omega)] at hx
    rw [e _ (fun y => by have := hX _ y; omega)]
    exact z7 x hx
theorem kw_of1 (g : Go1 f L n r C0 D C s) {j : Nat} (hj : j < 15) : sr C 508 n = some j ↔ txE f L s j = true := (kw_iff g.h8 g.tk hj).trans tx_E.symm
theorem g_next (g : Go1 f L n r C0 D C s) (hF : 10000 ≤ F) : ∃ C', f_X6_nextToken F C n = some C' ∧ Go1 f L n r C0 D C' (nxE f L s) := by
  obtain ⟨h1, h2, h3, h4, h5, h6, h7, h8, h9, h10⟩ := g.1
  obtain ⟨C', a1, a2, a3⟩ := e_nextT (F := F) h1 h2 h3 h5 h7 hF
  rw [nx_E] at a3
  exact ⟨C', a1, g.nx a2 a3⟩
theorem g_tx {j : Nat} (hj : j < 15) (g : Go1 f L n r C0 D C s) (hF : 10000 ≤ F) : (∃ C', f_X6_take F C n j = some (1, C') ∧ Go1 f L n r C0 D C' (nxE f L s) ∧ ∀ k, pTx f L j s k = k (nxE f L s)) ∨ (∃ C', f_X6_take F C n j = some (0, C') ∧ Fl1 n C0 C' 1 s ∧ ∀ k, pTx f L j s k = pEr 1 s) := by
  obtain ⟨h1, h2, h3, h4, h5, h6, h7, h8, h9, h10⟩ := g.1
  by_cases z : isTx f L s j
  · obtain ⟨C', a1, a2, a3⟩ := (e_take (F := F) h1 h2 h3 h5 h7 hj hF).1 z
    rw [nx_E] at a3
    exact Or.inl ⟨C', a1, g.nx a2 a3, fun k => if_pos (tx_E.mpr z)⟩
  · exact Or.inr ⟨_, (e_take (F := F) h1 h2 h3 h5 h7 hj hF).2 z, g.fail 1, fun k => if_neg (fun y => z (tx_E.mp y))⟩
theorem g_sy (g : Go1 f L n r C0 D C s) (hF : 10000 ≤ F) : (∃ C', f_X6_takeSymbol F C n 59 = some (1, C') ∧ Go1 f L n r C0 D C' (nxE f L s) ∧ s < nxE f L s ∧ ∀ k, pSy f L 59 s k = k (nxE f L s)) ∨ (∃ C', f_X6_takeSymbol F C n 59 = some (0, C') ∧ Fl1 n C0 C' 1 s ∧ ∀ k, pSy f L 59 s k = pEr 1 s) := by
  obtain ⟨h1, h2, h3, h4, h5, h6, h7, h8, h9, h10⟩ := g.1
  by_cases z : isSy f L s 59
  · obtain ⟨C', a1, a2, a3⟩ := (e_takeSy (F := F) h1 h2 h3 h5 h7 59 hF).1 z
    have lt : s < nxK f L s := nx_gt (by
      have := z.1
      by_cases y : s < L
      · exact y
      · rw [(tk_0 (by omega)).1] at this; omega)
    rw [nx_E] at a3 lt
    exact Or.inl ⟨C', a1, g.nx a2 a3, lt, fun k => if_pos (sy_E.mpr z)⟩
  · exact Or.inr ⟨_, (e_takeSy (F := F) h1 h2 h3 h5 h7 59 hF).2 z, g.fail 1, fun k => if_neg (fun y => z (sy_E.mp y))⟩
theorem g_nu {lo hh : Nat} (hh9 : hh ≤ 99999) (hlo : lo ≤ 99999) (g : Go1 f L n r C0 D C s) (hF : 10000 ≤ F) : (∃ v C', lo ≤ v ∧ v ≤ hh ∧ f_X6_takeNumber F C n (nI lo) (nI hh) = some (nI v, C') ∧ Go1 f L n r C0 D C' (nxE f L s) ∧ ∀ k, pNu f L lo hh s k = k v (nxE f L s)) ∨ (∃ c C', ¬ c = 0 ∧ f_X6_takeNumber F C n (nI lo) (nI hh) = some (-1, C') ∧ Fl1 n C0 C' c s ∧ ∀ k, pNu f L lo hh s k = pEr c s) := by
  obtain ⟨h1, h2, h3, h4, h5, h6, h7, h8, h9, h10⟩ := g.1
  have nu := fun v => nu_E (f := f) (L := L) (s := s) (lo := lo) (v := v) g.h8 hh9
  by_cases z : ∃ v, nuOk f L s lo hh v
  · obtain ⟨v, z⟩ := z
    obtain ⟨C', a1, a2, a3⟩ := (e_takeNu (F := F) h1 h2 h3 h5 h7 (lo := lo) hh9 hF).1 v z
    rw [nx_E] at a3
    obtain ⟨y1, y2, y3, y4⟩ := (nu v).mp z
    refine Or.inl ⟨v, C', y3, y4, a1, g.nx a2 a3, fun k => ?_⟩
    unfold pNu
    rw [if_pos y1, y2, if_pos ⟨y3, y4⟩]
  · have z' : ∀ v, ¬ nuOk f L s lo hh v := fun v y => z ⟨v, y⟩
    have a := (e_takeNu (F := F) h1 h2 h3 h5 h7 hh9 hF).2 z' hlo
    rw [kd_E] at a
    by_cases y : kdE f L s = 2
    · rw [if_pos y] at a
      refine Or.inr ⟨2, _, by omega, a, g.fail 2, fun k => ?_⟩
      unfold pNu
      rw [if_pos y, if_neg (fun x => z' _ ((nu _).mpr ⟨y, rfl, x.1, x.2⟩))]
    · rw [if_neg y] at a
      exact Or.inr ⟨1, _, by omega, a, g.fail 1, fun k => if_neg y⟩
theorem lkE_lt {p i : Nat} (h : lkE D f L s p = some i) : i < kN D (3 + p) := by
  rw [← lk_E] at h
  exact lk_lt h
theorem g_ol {p : Nat} (hp : p < 4) (g : Go1 f L n r C0 D C s) (hF : 10000 ≤ F) : (∃ i C', i < kN D (3 + p) ∧ f_X6_takeKnown F C n (r + kdQ p) = some (nI i, C') ∧ Go1 f L n r C0 D C' (nxE f L s) ∧ ∀ k, pOl f L D p s k = k i (nxE f L s)) ∨ (∃ c C', ¬ c = 0 ∧ f_X6_takeKnown F C n (r + kdQ p) = some (-1, C') ∧ Fl1 n C0 C' c s ∧ ∀ k, pOl f L D p s k = pEr c s) := by
  obtain ⟨h1, h2, h3, h4, h5, h6, h7, h8, h9, h10⟩ := g.1
  have ek := e_takeKn (F := F) hp h1 h2 h3 h5 h7 h8 h9 hF
  by_cases nm : isNm f L s
  · cases e : lkP4 D f L s p with
    | some i =>
      obtain ⟨C', a1, a2, a3⟩ := ek.1 i nm e
      rw [nx_E] at a3
      refine Or.inl ⟨i, C', lk_lt e, a1, g.nx a2 a3, fun k => ?_⟩
      rw [lk_E] at e
      unfold pOl
      rw [if_pos (nm_E.mpr nm), e]
    | none =>
      refine Or.inr ⟨3, _, by omega, ek.2.1 nm e, g.fail 3, fun k => ?_⟩
      rw [lk_E] at e
      unfold pOl
      rw [if_pos (nm_E.mpr nm), e]
  · exact Or.inr ⟨1, _, by omega, ek.2.2 nm, g.fail 1, fun k => if_neg (fun y => nm (nm_E.mp y))⟩
/-- a new name: its letters -/
def nmL (f : Nat → Int32) (s K : Nat) (w : Int64) : Prop := (1 ≤ K ∧ K ≤ 6) ∧ (∀ k, k < K → letB (f (s + k))) ∧ w = lN (wv (fun k => f (s + k)) K) ∧ ¬ lg_cmp w 0 = 0
theorem g_ne {p q : Nat} (hp : p < 4) (hq : q < 4) (g : Go1 f L n r C0 D C s) (hF : 10000 ≤ F) : (∃ w C', nmL f s (enE f L s - s) w ∧ f_X6_takeNewName F C n (r + kdQ p) (r + kdQ q) = some (w, C') ∧ Go1 f L n r C0 D C' (nxE f L s) ∧ ∀ k, pNe f L D p q s k = k (nxE f L s)) ∨ (∃ c C', ¬ c = 0 ∧ f_X6_takeNewName F C n (r + kdQ p) (r + kdQ q) = some (0, C') ∧ Fl1 n C0 C' c s ∧ ∀ k, pNe f L D p q s k = pEr c s) := by
  obtain ⟨h1, h2, h3, h4, h5, h6, h7, h8, h9, h10⟩ := g.1
  have ek := e_takeNew (F := F) hp hq h1 h2 h3 h5 h7 h8 h9 hF
  by_cases nm : isNm f L s
  · by_cases z : lkP4 D f L s p = none ∧ lkP4 D f L s q = none
    · obtain ⟨C', a1, a2, a3⟩ := ek.1 nm z.1 z.2
      rw [nx_E] at a3
      obtain ⟨w1, w2, w3⟩ := whW_nm g.h8 nm h7
      have c6 := nm.2.2
      have wb := wv_b (f := fun k => f (s + k)) (c := enK f L s - s) (by omega) w3
      have wE : sl C 507 n = lN (wv (fun k => f (s + k)) (enK f L s - s)) := by
        rw [w1]
        unfold whW
        rw [pif_t ⟨w3, by omega⟩]
      refine Or.inl ⟨sl C 507 n, C', ⟨?_, ?_, ?_, fun y => ?_⟩, a1, g.nx a2 a3, fun k => ?_⟩
      · rw [← en_E]; exact ⟨w2, c6⟩
      · rw [← en_E]; exact w3
      · rw [← en_E]; exact wE
      · have y' := (lg_cmp_eq _ _).mp y
        obtain ⟨c, hc⟩ : ∃ c, enK f L s - s = c + 1 := ⟨enK f L s - s - 1, by omega⟩
        rw [hc] at wE wb
        have ge := wv_ge (f := fun k => f (s + k)) (c := c) (fun k h => w3 k (by omega))
        have pp : 0 < 27 ^ c := Nat.pow_pos (by omega)
        have := (lN_inj (a := wv (fun k => f (s + k)) (c + 1)) (b := 0) (by omega) (by omega)).mp (by rw [← wE]; exact y')
        omega
      · unfold pNe
        rw [if_pos (nm_E.mpr nm), if_pos (by rw [← lk_E, ← lk_E]; exact z)]
    · refine Or.inr ⟨3, _, by omega, ek.2.1 nm z, g.fail 3, fun k => ?_⟩
      unfold pNe
      rw [if_pos (nm_E.mpr nm), if_neg (by rw [← lk_E, ← lk_E]; exact z)]
  · exact Or.inr ⟨1, _, by omega, ek.2.2 nm, g.fail 1, fun k => if_neg (fun y => nm (nm_E.mp y))⟩
/-- how a statement comes out -/
def Out1 (f : Nat → Int32) (L n r : Nat) (C0 : St) (s : Nat) (a : Option (Int32 × St)) : PR → Prop
  | none => True
  | some (.inl (c, t)) => ¬ c = 0 ∧ ∃ C', a = some (0, C') ∧ Fl1 n C0 C' c t
  | some (.inr (s', D')) => s < s' ∧ ∃ C', a = some (1, C') ∧ Go1 f L n r C0 D' C' s'
theorem Out1.er {a : Option (Int32 × St)} {c t : Nat} (hc : ¬ c = 0) (e : a = some (0, C')) (fl : Fl1 n C0 C' c t) : Out1 f L n r C0 s a (pEr c t) := ⟨hc, C', e, fl⟩
theorem Out1.lo {t : Nat} {a : Option (Int32 × St)} {x : PR} (h : Out1 f L n r C0 t a x) (hs : s ≤ t) : Out1 f L n r C0 s a x := by
  match x, h with
  | none, _ => trivial
  | some (.inl (c, t)), h => exact h
  | some (.inr (s', D')), h => exact ⟨Nat.lt_of_le_of_lt hs h.1, h.2⟩
theorem nxE_le (h : s ≤ L) : s ≤ nxE f L s ∧ nxE f L s ≤ L := by rw [← nx_E]; exact nx_le h
theorem nxE_gt (h : s < L) : s < nxE f L s := by rw [← nx_E]; exact nx_gt h
theorem nmW_n {o t K x : Nat} (h : ¬ (o ≤ x ∧ x < o + 6)) : nmW D o f t K x = D x := by unfold nmW; rw [if_neg h]
theorem nmW_r {o t K x : Nat} (h : x < 6) : nmW D o f t K (o + x) = if K ≤ x then 0 else f (t + x) := by
  unfold nmW
  rw [if_pos (by omega), Nat.add_sub_cancel_left]
theorem kN_e {D' : PD} {k : Nat} (h : D' k = D k) : kN D' k = kN D k := by unfold kN; rw [h]
end O1
