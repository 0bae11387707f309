/-! a day passes: the model -/
noncomputable def dyN (L : (Nat → Int32) → Int32 → Int32 → Nat → Int32) (B N : Nat → Int32) : (Nat → Int32) × Nat := rdN L (lvN L B (dayN N) (kN N 2 + 1) (kN N 7))
section Lvw
variable {F : Nat} {S : St} {n p : Nat} {N0 B : Nat → Int32} {D : Nat}
theorem Cl.lvu (hp : 27 ≤ p ∧ p + 20 < 212) (w0 : WB N0 B) {m : Nat} (hm : m < kN N0 7) {a : Nat → Int32} (hs : SpF S p) (g : Cl S n p a B) (s : lvS N0 m 0 a) : ∀ x, x ≤ kN N0 4 → ∃ T, Cl T n p (lvU lgN B N0 D m x a) B ∧ SpF T p ∧ lvS N0 m x (lvU lgN B N0 D m x a) := by
  have b4 := w0.n4.2
  have b7 := w0.n7.2
  have b8 := w0.n8.2
  intro x
  induction x with
  | zero => intro _; exact ⟨S, g, hs, s⟩
  | succ x ih =>
    intro hx
    obtain ⟨T, t1, t2, t3⟩ := ih (by omega)
    have s2 := t3.step (L := lgN) (B := B) (D := D) isLg_lg b8 (by omega) (by omega)
    rw [lvU_s]
    by_cases z : dueP N0 m x D
    · rw [pif_t z] at s2 ⊢
      have e0 : stN (lvU lgN B N0 D m x a) m x = stN N0 m x := t3 _ (by omega) (by omega) (by unfold xD; omega) (by omega)
      obtain ⟨T', q1, q2, q3⟩ := e_lv1 (F := 1000) t1 hp t2 (m := m) (u := x) (by rw [t3.kn (by omega) (by omega)]; exact hm) (by rw [t3.kn (by omega) (by omega)]; omega) (e0.trans z.1) (by omega) (fun S => some S)
      exact ⟨T', q2, t2.frm q3.2.1 q3.2.2, s2⟩
    · rw [pif_f z] at s2 ⊢
      exact ⟨T, t1, t2, s2⟩
theorem Cl.lvn (hp : 27 ≤ p ∧ p + 20 < 212) (hs : SpF S p) (g : Cl S n p N0 B) : ∀ m, m ≤ kN N0 7 → ∃ T, Cl T n p (lvN lgN B N0 D m) B ∧ SpF T p ∧ lvS N0 m 0 (lvN lgN B N0 D m) := by
  have w0 := g.c0.wb
  have b4 := w0.n4.2
  have b7 := w0.n7.2
  intro m
  induction m with
  | zero => intro _; exact ⟨S, g, hs, fun k _ _ _ _ => rfl⟩
  | succ m ih =>
    intro hm
    obtain ⟨T, t1, t2, t3⟩ := ih (by omega)
    obtain ⟨T', q1, q2, q3⟩ := Cl.lvu (D := D) hp w0 (by omega : m < kN N0 7) t2 t1 t3 (kN N0 4) (Nat.le_refl _)
    rw [lvN_s]
    exact ⟨T', q1, q2, lvS_next b4 q3⟩
/-- on the way of the leaving every net is well-formed -/
theorem Cl.lvw (hp : 27 ≤ p ∧ p + 20 < 212) (hs : SpF S p) (g : Cl S n p N0 B) (D : Nat) : lvW lgN B N0 D := by
  intro m x hm hx
  obtain ⟨T, t1, t2, t3⟩ := Cl.lvn (D := D) hp hs g m (by omega)
  obtain ⟨T', q1, q2, q3⟩ := Cl.lvu (D := D) hp g.c0.wb hm t2 t1 t3 x hx
  exact q1.c0.wf
end Lvw
section Mps
variable {F : Nat} {S : St} {B : Nat → Int32} {L : (Nat → Int32) → Int32 → Int32 → Nat → Int32} {th : Int32}
theorem rndN_wL {N : Nat → Int32} (hL : isLg L) (w : WB N B) : WB (rdN L N).1 B := by
  have b8 := w.n8.2
  unfold rdN
  by_cases z : ¬ (N 2 - N 2 / N 1 * N 1) = 0
  · rw [if_pos z]; exact WB.lg hL w _ _
  · rw [if_neg z]; exact WB.lg hL (WB.lg hL (rndN_wb hL w _ b8) _ _) _ _
theorem m_pass41 (hT : isTh L th) (hx : FxF S) (ht : si S 1005 197 = th) (w : WB (ai S 198) B) (hF : 1000 ≤ F) :
    ∃ T, f_X11_passDay_L41 F S 197 = some (nI (rdN L (ai S 198)).2, T) ∧ Net S T ∧ ai T 198 = (rdN L (ai S 198)).1 := by
  have b8 := w.n8.2
  have b1 := w.n1.2
  have p1 := w.n1p
  have z2 : ¬ ai S 198 1 = 0 := by rw [w.n1.1]; exact nI_ne0 (by omega) (by omega)
  obtain ⟨N, hN⟩ : ∃ N, N = ai S 198 := ⟨_, rfl⟩
  have last : ∀ (T : St) (M : Nat → Int32) (c : Nat), Net S T → ai T 198 = M → WB M B → M 2 = N 2 → ∃ T', f_X11_passDay_L65 F T 197 (nI c) = some (nI c, T') ∧ Net S T' ∧ ai T' 198 = L M 10 (N 2) := by
    intro T M c n1 n2 wM e2
    have hxT := n1.mfr.fx hx
    obtain ⟨V, v1, v2, v3⟩ := m_logL (F := F) (B := B) hT hxT ((n1.si 1005 197).trans ht) (by rw [n2]; exact wM) 10 (N 2) hF
    refine ⟨V, ?_, n1.tr v2, by rw [v3, n2]⟩
    unfold f_X11_passDay_L65
    rw [hxT.r1001_197, ob_some, hxT.l198, show (2 : Int32) = nI 2 from rfl, cki_nI (by omega) (by omega), nI_clamp (by omega), n2, e2, v1, ob_some]
  unfold f_X11_passDay_L41
  rw [hx.r1001_197, ob_some, hx.l198, show (2 : Int32) = nI 2 from rfl, cki_nI (by omega) (by omega), ob_some, hx.l198, cki_1 (by omega) (by omega), nI_clamp (by omega), cl1, ck_t z2, ← hN]
  unfold rdN
  by_cases z : ¬ (N 2 - N 2 / N 1 * N 1) = 0
  · rw [if_pos z, if_pos z]
    exact last S N 0 (Net.rf S) hN.symm (by rw [hN]; exact w) rfl
  · rw [if_neg z, if_neg z]
    obtain ⟨T, t1, t2, t3⟩ := m_round (F := F) (B := B) hT hx ht w hF
    rw [← hN] at t1 t3
    have b8' : kN N 8 ≤ 480 := by rw [hN]; exact b8
    have wN : WB N B := by rw [hN]; exact w
    have e2 : (rndN L (kN N 8) N).1 2 = N 2 := rndN_lo hT.lg _ b8' 2 (by omega) (by omega) (by unfold xI; omega)
    obtain ⟨V, v1, v2, v3⟩ := last T _ (rndN L (kN N 8) N).2 t2 t3 (WB.lg hT.lg (rndN_wb hT.lg wN _ b8') _ _) (((hT.lg _ _ _).1 2 (by omega) (by omega)).trans e2)
    refine ⟨V, ?_, v2, v3⟩
    rw [t1, ob_some]
    simp only [lt_eq]
    exact v1
/-- the leaving of a day, then the round -/
theorem m_passDay0 (hx : FxF S) (ht : si S 1005 197 = 0) (hB : ai S 200 = B) (w : WB (ai S 198) B) (hd : kN (ai S 198) 2 < 22000) (hW : lvW lgN B (dayN (ai S 198)) (kN (ai S 198) 2 + 1)) (hWE : WF (lvN lgN B (dayN (ai S 198)) (kN (ai S 198) 2 + 1) (kN (ai S 198) 7)) B) (hF : 1000 ≤ F) :
    ∃ T, f_X11_passDay F S 197 = some (nI (dyN lgN B (ai S 198)).2, T) ∧ LvM S T ∧ ai T 198 = (dyN lgN B (ai S 198)).1 := by
  obtain ⟨N, hN⟩ : ∃ N, N = ai S 198 := ⟨_, rfl⟩
  rw [← hN] at w hd hW hWE
  rw [← hN]
  obtain ⟨S1, hS1⟩ : ∃ S1, S1 = uai S 198 2 (nI (kN N 2 + 1)) := ⟨_, rfl⟩
  have F1 : Net S S1 := by rw [hS1]; exact Net.uai _ _
  have hx1 := F1.lv.fx hx
  have a1 : ai S1 198 = dayN N := by rw [hS1, ai_uaiE, ← hN]; rfl
  have ht1 : si S1 1005 197 = 0 := (F1.si _ _).trans ht
  have aB : ai S1 200 = B := (F1.row (by omega)).trans hB
  have k7 : kN (dayN N) 7 = kN N 7 := dayN_k (by omega)
  have k2 : kN (dayN N) 2 = kN N 2 + 1 := (dayN_2 hd).2
  have hT : isTh lgN 0 := Or.inl ⟨rfl, rfl⟩
  obtain ⟨T1, t1, t2, t3⟩ := m_leaveAll (F := F) (S := S1) (B := B) (L := lgN) (th := 0) hT hx1 ht1 aB (by rw [a1]; exact w.day hd) (D := kN N 2 + 1) (by rw [a1, k2]) (by rw [a1]; exact hW) hF
  rw [a1, k7] at t1 t3
  have ht2 : si T1 1005 197 = 0 := (t2.1.1.2.2.1 1005 (by omega)).trans ht1
  obtain ⟨T2, r1, r2, r3⟩ := m_pass41 (F := F) (S := T1) (B := B) (L := lgN) (th := 0) hT (t2.fx hx1) ht2 (by rw [t3]; exact hWE.wb) hF
  rw [t3] at r1 r3
  refine ⟨T2, ?_, (F1.lv.tr t2).tr r2.lv, r3⟩
  have e2 : ai S 198 2 + 1 = nI (kN N 2 + 1) := by rw [← hN, w.n2.1, nI_1]
  unfold f_X11_passDay
  rw [hx.r1001_197, ob_some, hx.l198, show (2 : Int32) = nI 2 from rfl, cki_nI (by omega) (by omega), cki_nI (by omega) (by omega), nI_clamp (by omega), e2, ← hS1]
  simp only [lt_eq]
  rw [if_neg (fun y => y ht1), t1, ob_some]
  simp only [lt_eq]
  unfold f_X11_passDay_L28 f_X11_passDay_L29
  rw [if_pos ht2]
  unfold dyN
  by_cases z : pI (anyP (dayN N) (kN N 2 + 1) (kN N 7) 0) = 0
  · rw [if_pos z]; exact r1
  · rw [if_neg z]; exact r1
end Mps
