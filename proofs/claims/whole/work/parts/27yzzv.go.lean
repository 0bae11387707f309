/-! one step of reading: both sides go on, or both fail -/
def scE (g : Nat) : Prop := 1009 ≤ g ∧ g ≤ 1014
/-- what a draft holds beside its rows -/
def Zd (D : Nat → Int32) : Prop := (isCnt D 0 30 ∧ isCnt D 1 30 ∧ 1 ≤ kN D 1) ∧ (D 2 = 0 ∧ (∀ k, 7 ≤ k → k < 11 → D k = 0) ∧ ∀ k, 331 ≤ k → k < 6391 → D k = 0) ∧ ∀ h, h < kN D 6 → D (208 + 21 * h) = 1
def Fr (n : Nat) (C C' M M' : St) : Prop := (∀ k, k < n → SameO C C' k) ∧ Mf scE is199 M M'
def Go (f : Nat → Int32) (L n r : Nat) (C0 M0 : St) (D : Nat → Int32) (C M : St) (s : Nat) : Prop := ai M 199 = D ∧ Sim f L n r C M s ∧ Zd D ∧ si M 1014 197 = -1 ∧ si C 502 n = 0 ∧ si C 503 n = -1 ∧ Fr n C0 C M0 M
def Fl (f : Nat → Int32) (L n : Nat) (C0 M0 C M : St) : Prop := (∃ c t s, ¬ c = 0 ∧ si C 502 n = c ∧ si C 503 n = t ∧ BdM f L s M ∧ si M 1013 197 = c ∧ si M 1014 197 = t) ∧ Fr n C0 C M0 M ∧ sr C 500 n = some 20
/-- rows of a draft beyond its counts -/
def bey (D : Nat → Int32) (k : Nat) : Prop := (11 + 9 * kN D 3 ≤ k ∧ k < 83) ∨ (83 + 8 * kN D 4 ≤ k ∧ k < 163) ∨ (163 + 7 * kN D 5 ≤ k ∧ k < 205) ∨ (205 + 21 * kN D 6 ≤ k ∧ k < 331)
section Gs
variable {F : Nat} {f D : Nat → Int32} {L n r s : Nat} {C0 M0 C M C' M' : St}
theorem nx_le (h : s ≤ L) : s ≤ nxK f L s ∧ nxK f L s ≤ L := by
  have a := enK_le (f := f) h
  have b := nbK_le (f := f) a.2
  exact ⟨Nat.le_trans a.1 b.1, b.2⟩
theorem en_gt (h : s < L) : s < enK f L s := by
  by_cases a : letB (byK f s)
  · rw [(tk_1 h a).2]
    have e : weK f L s = pif (¬ letB (byK f s)) s (weK f L (s + 1)) := by
      unfold weK
      rw [show L - s = (L - (s + 1)) + 1 by omega, fnd_s]
    rw [e, pif_f (fun y => y a)]
    have := weK_le (f := f) (p := s + 1) (L := L) (by omega)
    omega
  by_cases b : digB (byK f s)
  · rw [(tk_2 h a b).2]
    have e : deK f L s = pif (¬ digB (byK f s)) s (deK f L (s + 1)) := by
      unfold deK
      rw [show L - s = (L - (s + 1)) + 1 by omega, fnd_s]
    rw [e, pif_f (fun y => y b)]
    have := deK_le (f := f) (p := s + 1) (L := L) (by omega)
    omega
  · rw [(tk_3 h a b).2]; omega
theorem nx_gt (h : s < L) : s < nxK f L s := by
  have a := enK_le (f := f) (L := L) (s := s) (by omega)
  have b := nbK_le (f := f) a.2
  have c := en_gt (f := f) h
  unfold nxK
  omega
theorem Go.nx (g : Go f L n r C0 M0 D C M s) (p : PaF n C C') (t : TokC f L C' n (nxK f L s)) (m : Mf scM noA M M') (gd : GdM f L (nxK f L s) M') : Go f L n r C0 M0 D C' M' (nxK f L s) := by
  obtain ⟨e, h, z, e1, e2, e3, fr⟩ := g
  exact ⟨(m.2.2.1 199 (fun z => z)).trans e, h.nx p t m gd, z, (m.2.1 1014 197 (fun z => by have := z.2; unfold scM at this; omega)).trans e1, (p.2.2.1 502 (by omega) (by omega)).trans e2, (p.2.2.1 503 (by omega) (by omega)).trans e3, fun k hk => (fr.1 k hk).tr (p.1 k (by omega)), fr.2.tr (m.mono (fun k z => by unfold scM at z; unfold scE; omega) (fun k z => False.elim z))⟩
theorem D9.e (d : D9 M M') : Mf scE is199 M M' := d.mono (fun k z => False.elim z) (fun k z => z)
theorem Fl.d9 (h : Fl f L n C0 M0 C M) (d : D9 M M') : Fl f L n C0 M0 C M' := by
  obtain ⟨⟨c, t, s, a1, a2, a3, a4, a5, a6⟩, fr, h5⟩ := h
  exact ⟨⟨c, t, s, a1, a2, a3, a4.fr d, (d.si _ _).trans a5, (d.si _ _).trans a6⟩, ⟨fr.1, fr.2.tr d.e⟩, h5⟩
theorem Go.fail (g : Go f L n r C0 M0 D C M s) {c : Int32} (hc : ¬ c = 0) (d : D9 (flM M s c) M') : BdM f L s M' ∧ Fl f L n C0 M0 (flC C n s c) M' := by
  obtain ⟨e, h, z, e1, e2, e3, fr⟩ := g
  have b := (h.2.2.2.2.2.2.2.2.2.2.bad hc).fr d
  refine ⟨b, ⟨c, nI s, s, hc, ?_, ?_, b, ?_, ?_⟩, ⟨fun k hk => (fr.1 k hk).tr ((SameO.ui _ (by omega)).tr (SameO.ui _ (by omega))), (fr.2.tr ((Mf.ui _ (by unfold scE; omega)).tr (Mf.ui _ (by unfold scE; omega)))).tr d.e⟩, h.2.2.2.2.1⟩
  · unfold flC; rw [si_ui, if_neg (by omega), si_ui, if_pos ⟨rfl, rfl⟩]
  · unfold flC; rw [si_ui, if_pos ⟨rfl, rfl⟩]
  · rw [d.si]; unfold flM; rw [si_ui, if_neg (by omega), si_ui, if_pos ⟨rfl, rfl⟩]
  · rw [d.si]; unfold flM; rw [si_ui, if_pos ⟨rfl, rfl⟩]
theorem Go.le (g : Go f L n r C0 M0 D C M s) : s ≤ L := g.2.1.2.2.2.2.2.2.1.1
theorem Go.gd (g : Go f L n r C0 M0 D C M s) : GdM f L s M := g.2.1.2.2.2.2.2.2.2.2.2.2
/-- the draft is written beyond its counts -/
theorem Go.dr (g : Go f L n r C0 M0 D C M s) (X : Nat → Prop) (hX : ∀ k, X k → bey D k) (e : ∀ k, ¬ X k → ai M' 199 k = D k) (d : D9 M M') : Go f L n r C0 M0 (ai M' 199) C M' s := by
  obtain ⟨e0, h, ⟨⟨z1, z2, z3⟩, ⟨z4, z5, z6⟩, z7⟩, e1, e2, e3, fr⟩ := g
  obtain ⟨c3, c4, c5, c6⟩ := h.2.2.2.2.2.2.2.2.1
  rw [e0] at c3 c4 c5 c6
  have b3 := c3.2
  have b4 := c4.2
  have b5 := c5.2
  have b6 := c6.2
  have lo : ∀ k, k < 11 ∨ 331 ≤ k → ai M' 199 k = D k := fun k hk => e k (fun y => by have := hX k y; unfold bey at this; omega)
  have cn : ∀ k b, k < 11 → isCnt D k b → isCnt (ai M' 199) k b := fun k b a y => by
    unfold isCnt kN at y ⊢
    rw [lo k (Or.inl a)]; exact y
  have kn : ∀ k, k < 11 → kN (ai M' 199) k = kN D k := fun k a => by unfold kN; rw [lo k (Or.inl a)]
  refine ⟨rfl, h.dr X (by rw [e0]; exact hX) (by rw [e0]; exact e) h.2.2.2.2.2.2.1 (h.2.2.2.2.2.2.2.2.2.2.d9 d), ⟨⟨cn _ _ (by omega) z1, cn _ _ (by omega) z2, by rw [kn 1 (by omega)]; exact z3⟩, ⟨(lo 2 (Or.inl (by omega))).trans z4, fun k a b => (lo k (Or.inl b)).trans (z5 k a b), fun k a b => (lo k (Or.inr a)).trans (z6 k a b)⟩, fun x hx => ?_⟩, (d.si _ _).trans e1, e2, e3, fr.1, fr.2.tr d.e⟩
  rw [kn 6 (by omega)] at hx
  rw [e _ (fun y => by have := hX _ y; unfold bey at this; omega)]
  exact z7 x hx
theorem Go.up (g : Go f L n r C0 M0 D C M s) {o : Nat} (ho : bey D o) (v : Int32) : Go f L n r C0 M0 (upd D o v) C (uai M 199 o v) s := by
  have e0 := g.1
  have a : ai (uai M 199 o v) 199 = upd D o v := by rw [ai_uaiE, e0]
  have := g.dr (M' := uai M 199 o v) (fun k => k = o) (fun k y => by rw [y]; exact ho) (fun k y => by rw [a, upd_n y]) (D9.uai _)
  rw [a] at this
  exact this
/-- both take the next token -/
theorem s_next (g : Go f L n r C0 M0 D C M s) (hF : 10000 ≤ F) : ∃ C' M', f_X6_nextToken F C n = some C' ∧ f_X11_goOn F M 197 = some M' ∧ Go f L n r C0 M0 D C' M' (nxK f L s) := by
  obtain ⟨h1, h2, h3, h4, h5, h6, h7, h8, h9, h10, h11⟩ := g.2.1
  obtain ⟨C', a1, a2, a3⟩ := e_nextT (F := F) h1 h2 h3 h5 h7 hF
  obtain ⟨M', b1, b2, b3⟩ := g_goOn (F := F) h11 hF
  exact ⟨C', M', a1, b1, g.nx a2 a3 b2 b3⟩
theorem s_word {j : Nat} (hj : j < 15) (g : Go f L n r C0 M0 D C M s) (hF : 10000 ≤ F) : (isTx f L s j ∧ ∃ C' M', f_X6_take F C n j = some (1, C') ∧ f_X11_word F M 197 j = some M' ∧ Go f L n r C0 M0 D C' M' (nxK f L s)) ∨ (∃ C' M', f_X6_take F C n j = some (0, C') ∧ f_X11_word F M 197 j = some M' ∧ BdM f L s M' ∧ Fl f L n C0 M0 C' M') := by
  obtain ⟨h1, h2, h3, h4, h5, h6, h7, h8, h9, h10, h11⟩ := g.2.1
  by_cases z : isTx f L s j
  · obtain ⟨C', a1, a2, a3⟩ := (e_take (F := F) h1 h2 h3 h5 h7 hj hF).1 z
    obtain ⟨M', b1, b2, b3⟩ := (g_word (F := F) h11 hj hF).1 z
    exact Or.inl ⟨z, C', M', a1, b1, g.nx a2 a3 b2 b3⟩
  · have fl := g.fail (c := 1) (by decide) (Mf.rf _)
    exact Or.inr ⟨_, _, (e_take (F := F) h1 h2 h3 h5 h7 hj hF).2 z, (g_word (F := F) h11 hj hF).2 z, fl.1, fl.2⟩
theorem s_num {lo hh : Nat} (hh9 : hh ≤ 99999) (hlo : lo ≤ 99999) (g : Go f L n r C0 M0 D C M s) (hF : 10000 ≤ F) : (∃ v C' M', lo ≤ v ∧ v ≤ hh ∧ f_X6_takeNumber F C n (nI lo) (nI hh) = some (nI v, C') ∧ f_X11_number F M 197 (nI lo) (nI hh) = some (nI v, M') ∧ Go f L n r C0 M0 D C' M' (nxK f L s)) ∨ (∃ C' M', f_X6_takeNumber F C n (nI lo) (nI hh) = some (-1, C') ∧ f_X11_number F M 197 (nI lo) (nI hh) = some (nI lo, M') ∧ BdM f L s M' ∧ Fl f L n C0 M0 C' M') := by
  obtain ⟨h1, h2, h3, h4, h5, h6, h7, h8, h9, h10, h11⟩ := g.2.1
  by_cases z : ∃ v, nuOk f L s lo hh v
  · obtain ⟨v, z⟩ := z
    obtain ⟨C', a1, a2, a3⟩ := (e_takeNu (F := F) h1 h2 h3 h5 h7 (lo := lo) hh9 hF).1 v z
    obtain ⟨M', b1, b2, b3⟩ := (g_number (F := F) h11 hh9 hlo hF).1 v z
    exact Or.inl ⟨v, C', M', z.2.1, z.2.2, a1, b1, g.nx a2 a3 b2 b3⟩
  · have z' : ∀ v, ¬ nuOk f L s lo hh v := fun v y => z ⟨v, y⟩
    have fl := g.fail (c := if kdK f L s = 2 then 2 else 1) (by by_cases y : kdK f L s = 2 <;> simp only [y, if_true, if_false] <;> decide) (Mf.rf _)
    exact Or.inr ⟨_, _, (e_takeNu (F := F) h1 h2 h3 h5 h7 hh9 hF).2 z' hlo, (g_number (F := F) h11 hh9 hlo hF).2 z', fl.1, fl.2⟩
/-- a known name -/
theorem s_old {p : Nat} (hp : p < 4) (g : Go f L n r C0 M0 D C M s) (hF : 10000 ≤ F) : (∃ i C' M', i < kN D (3 + p) ∧ f_X6_takeKnown F C n (r + kdQ p) = some (nI i, C') ∧ f_X11_oldName F M 197 (nI p) = some (nI i, M') ∧ Go f L n r C0 M0 D C' M' (nxK f L s)) ∨ (∃ v C' M', f_X6_takeKnown F C n (r + kdQ p) = some (-1, C') ∧ f_X11_oldName F M 197 (nI p) = some (v, M') ∧ BdM f L s M' ∧ Fl f L n C0 M0 C' M') := by
  have e0 := g.1
  obtain ⟨h1, h2, h3, h4, h5, h6, h7, h8, h9, h10, h11⟩ := g.2.1
  have ek := e_takeKn (F := F) hp h1 h2 h3 h5 h7 h8 h9 hF
  have gk := g_oldName (F := F) hp h11 h9 hF
  by_cases nm : isNm f L s
  · cases e : lkP4 (ai M 199) f L s p with
    | some i =>
      obtain ⟨C', a1, a2, a3⟩ := ek.1 i nm e
      obtain ⟨M', b1, b2, b3⟩ := gk.1 i nm e
      exact Or.inl ⟨i, C', M', by have := lk_lt e; rw [e0] at this; exact this, a1, b1, g.nx a2 a3 b2 b3⟩
    | none =>
      have fl := g.fail (c := 3) (by decide) (Mf.rf _)
      exact Or.inr ⟨-1, _, _, ek.2.1 nm e, gk.2.1 nm e, fl.1, fl.2⟩
  · have fl := g.fail (c := 1) (by decide) (Mf.rf _)
    exact Or.inr ⟨0, _, _, ek.2.2 nm, gk.2.2 nm, fl.1, fl.2⟩
/-- a new name: its rows are laid down -/
theorem s_new {p q o : Nat} (hp : p < 4) (hq : q < 4) (ho : ∀ x, x < 6 → bey D (o + x)) (g : Go f L n r C0 M0 D C M s) (hF : 10000 ≤ F) :
    (∃ D' K w C' M', (1 ≤ K ∧ K ≤ 6) ∧ (∀ k, k < K → letB (f (s + k))) ∧ (∀ x, x < 6 → D' (o + x) = if K ≤ x then 0 else f (s + x)) ∧ (∀ x, (x < o ∨ o + 6 ≤ x) → D' x = D x) ∧ w = lN (wv (fun k => f (s + k)) K) ∧ ¬ lg_cmp w 0 = 0 ∧ f_X6_takeNewName F C n (r + kdQ p) (r + kdQ q) = some (w, C') ∧ f_X11_newName F M 197 (nI p) (nI q) (nI o) = some M' ∧ Go f L n r C0 M0 D' C' M' (nxK f L s)) ∨
    (∃ C' M', f_X6_takeNewName F C n (r + kdQ p) (r + kdQ q) = some (0, C') ∧ f_X11_newName F M 197 (nI p) (nI q) (nI o) = some M' ∧ BdM f L s M' ∧ Fl f L n C0 M0 C' M') := by
  have e0 := g.1
  have hb : ∀ x, bey D x → x < 331 := fun x y => by unfold bey at y; omega
  have ho6 : o + 6 ≤ 6391 := by have := hb _ (ho 0 (by omega)); omega
  obtain ⟨h1, h2, h3, h4, h5, h6, h7, h8, h9, h10, h11⟩ := g.2.1
  have h8' : ∀ i, i < L → (f i).toInt8.toInt32 = f i := fun i h => (h2.2.2 i h).2
  have ek := e_takeNew (F := F) hp hq h1 h2 h3 h5 h7 h8 h9 hF
  have gk := g_newName (F := F) hp hq ho6 h11 h9 hF
  by_cases nm : isNm f L s
  · by_cases z : lkP4 (ai M 199) f L s p = none ∧ lkP4 (ai M 199) f L s q = none
    · obtain ⟨C', a1, a2, a3⟩ := ek.1 nm z.1 z.2
      obtain ⟨M', b1, b2, b3, b4, T1, b5, b6⟩ := gk.1 nm z.1 z.2
      obtain ⟨w1, w2, w3⟩ := whW_nm h8' nm h7
      have c6 := nm.2.2
      have wb := wv_b (f := fun k => f (s + k)) (c := enK f L s - s) (by omega) w3
      have wE : sl C 507 n = lN (wv (fun k => f (s + k)) (enK f L s - s)) := by
        rw [w1]
        unfold whW
        rw [pif_t ⟨w3, by omega⟩]
      have e199 : ai M' 199 = ai T1 199 := b6.2.2.1 199 (fun z => z)
      have g1 : Go f L n r C0 M0 (ai T1 199) C T1 s := g.dr (fun k => o ≤ k ∧ k < o + 6) (fun k y => by have := ho (k - o) (by omega); rw [show o + (k - o) = k by omega] at this; exact this) (fun k y => by rw [← e199, b4 k (by omega), e0]) b5
      have g2 := g1.nx a2 a3 b6 b2
      rw [← e199] at g2
      refine Or.inl ⟨_, enK f L s - s, sl C 507 n, C', M', ⟨w2, c6⟩, w3, b3, fun x hx => by rw [b4 x hx, e0], wE, fun y => ?_, a1, b1, g2⟩
      have y' := (lg_cmp_eq _ _).mp y
      obtain ⟨c, hc⟩ : ∃ c, enK f L s - s = c + 1 := ⟨enK f L s - s - 1, by omega⟩
      rw [hc] at wE wb
      have ge := wv_ge (f := fun k => f (s + k)) (c := c) (fun k h => w3 k (by omega))
      have pp : 0 < 27 ^ c := Nat.pow_pos (by omega)
      have := (lN_inj (a := wv (fun k => f (s + k)) (c + 1)) (b := 0) (by omega) (by omega)).mp (by rw [← wE]; exact y')
      omega
    · obtain ⟨M', b1, b2⟩ := gk.2.1 nm z
      have fl := g.fail (c := 3) (by decide) b2
      exact Or.inr ⟨_, _, ek.2.1 nm z, b1, fl.1, fl.2⟩
  · obtain ⟨M', b1, b2⟩ := gk.2.2 nm
    have fl := g.fail (c := 1) (by decide) b2
    exact Or.inr ⟨_, _, ek.2.2 nm, b1, fl.1, fl.2⟩
end Gs
