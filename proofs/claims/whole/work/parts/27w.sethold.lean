/-! setHold -/
/-- what the model's changes of its net leave -/
def Rst (S T : St) : Prop := MFr S T ∧ ai T 200 = ai S 200 ∧ ai T 207 = ai S 207 ∧ ai T 208 = ai S 208 ∧ si T 1026 197 = si S 1026 197 ∧ si T 1027 197 = si S 1027 197 ∧ si T 1000 197 = si S 1000 197
theorem Rst.rf (S : St) : Rst S S := ⟨MFr.rf S, rfl, rfl, rfl, rfl, rfl, rfl⟩
theorem Rst.tr {S T U : St} (h : Rst S T) (g : Rst T U) : Rst S U := ⟨h.1.tr g.1, g.2.1.trans h.2.1, g.2.2.1.trans h.2.2.1, g.2.2.2.1.trans h.2.2.2.1, g.2.2.2.2.1.trans h.2.2.2.2.1, g.2.2.2.2.2.1.trans h.2.2.2.2.2.1, g.2.2.2.2.2.2.trans h.2.2.2.2.2.2⟩
theorem Net.rst {S T : St} (h : Net S T) : Rst S T := ⟨h.mfr, h.row (by omega), h.row (by omega), h.row (by omega), h.si _ _, h.si _ _, h.si _ _⟩
theorem Sc.rst {S T : St} (h : Sc S T) : Rst S T := ⟨h.2.2.2.1, h.b, h.ms.2.2.2.1, h.ms.2.2.2.2.1, h.ms.2.2.2.2.2.1, h.ms.2.2.2.2.2.2, h.2.2.1⟩
section Mr
variable {F : Nat} {S : St} {u : Nat} {B : Nat → Int32}
theorem m_release (hx : FxF S) (ht : si S 1005 197 = 0) (hB : B = ai S 200) (w : WB (ai S 198) B) (hu : u < kN (ai S 198) 4) (hW : ∀ k, k ≤ kN (ai S 198) 7 → WF (relN lgN B u k (ai S 198)).1 B) (hF : 1000 ≤ F) :
    ∀ k, k ≤ kN (ai S 198) 7 → ∃ T, f_X11_release_L4 F F S 197 (nI u) 0 0 = f_X11_release_L4 F (F - k) T 197 (nI u) (nI (relN lgN B u k (ai S 198)).2) (nI k) ∧ Rst S T ∧ ai T 198 = (relN lgN B u k (ai S 198)).1 := by
  have b4 := w.n4.2
  have b7 := w.n7.2
  have b8 := w.n8.2
  intro k
  induction k with
  | zero => intro _; exact ⟨S, rfl, Rst.rf S, rfl⟩
  | succ k ih =>
    intro hk
    obtain ⟨T, t1, t2, t3⟩ := ih (by omega)
    have lo := relN_lo (L := lgN) (N := ai S 198) (B := B) (u := u) isLg_lg (by omega) b8 k (by omega)
    have le := relN_le (L := lgN) (N := ai S 198) (B := B) (u := u) k
    have wf := hW k (by omega)
    have k7 : kN (relN lgN B u k (ai S 198)).1 7 = kN (ai S 198) 7 := by unfold kN; rw [lo 7 (by omega) (by omega) (by unfold xD; omega) (by unfold xS; omega)]
    have k4 : kN (relN lgN B u k (ai S 198)).1 4 = kN (ai S 198) 4 := by unfold kN; rw [lo 4 (by omega) (by omega) (by unfold xD; omega) (by unfold xS; omega)]
    have hxT : FxF T := t2.1.fx hx
    have wT : WB (ai T 198) B := by rw [t3]; exact wf.wb
    have e7 : ai T 198 7 = nI (kN (ai S 198) 7) := by rw [t3, lo 7 (by omega) (by omega) (by unfold xD; omega) (by unfold xS; omega)]; exact w.n7.1
    have thT : si T 1005 197 = 0 := (t2.1.2.2.1 1005 (by omega)).trans ht
    obtain ⟨fu, f1, f2⟩ := sub_fuel (F := F) (k := k) (by omega)
    rw [t1, f1, f2]
    conv => enter [1, T, 1, 1]; unfold f_X11_release_L4
    rw [hxT.r1001_197, ob_some, hxT.l198, show (7 : Int32) = nI 7 from rfl, cki_nI (by omega) (by omega), nI_clamp (by omega), e7, if_neg (nI_ge (by omega) (by omega)), m_isHidden hxT (by omega) (by omega), ob_some, t3]
    simp only [lt_eq, eq_bI]
    unfold f_X11_release_L63
    rw [relN_s]
    by_cases z : 1 ≤ stN (relN lgN B u k (ai S 198)).1 k u ∧ stN (relN lgN B u k (ai S 198)).1 k u ≤ 2
    · obtain ⟨T0, s1, s2⟩ := m_covers (F := F) hxT wT (m := k) (u := u) (by rw [t3]; omega) hF
      have a0 : ai T 200 = B := t2.2.1.trans hB.symm
      rw [t3, a0] at s1
      have cb := cov_lt wf.wb k u
      rw [if_pos z, s1, ob_some]
      simp only [lt_eq]
      by_cases c : covN (relN lgN B u k (ai S 198)).1 B k u = 0
      · have hx0 := s2.fx hxT
        have n0 : ai T0 198 = (relN lgN B u k (ai S 198)).1 := s2.n.trans t3
        obtain ⟨T1, T2, q1, q2, q3, q4, q5⟩ := m_se (F := F) (S := T0) (B := B) (L := lgN) (th := 0) (m := k) (u := u) (s := 3) (Or.inl ⟨rfl, rfl⟩) hx0 ((s2.2.2.2.1.2.2.1 1005 (by omega)).trans thT) (by rw [n0]; exact wf.wb) (by rw [n0]; omega) (by rw [n0]; omega) (Or.inr (Or.inr rfl)) 4 (fun q hq => by
          rw [n0] at hq ⊢
          have hq' := hq
          obtain ⟨i, i1, i2⟩ := hq'
          refine (wf.link (by rw [← i2]; exact ((wf.wb.wM k (by omega)).2.2.2.2.2 i i1).2)).mpr ⟨k, by omega, hq, u, by omega, ?_, z.2⟩
          have := z.1
          rw [Int32.le_iff_toInt_le] at *
          have e1 : (1 : Int32).toInt = 1 := by decide
          have e0 : (0 : Int32).toInt = 0 := by decide
          omega) hF
        rw [n0] at q4
        rw [c, if_pos (show nI 0 = 0 from rfl), hx0.r1001_197, ob_some, m_refAt, ob_some]
        simp only [lt_eq]
        rw [Int32.add_zero, hx0.l198, cki_nI (by omega) (by omega), nI_clamp (by omega), q1, ob_some, q2, ob_some, nI_1, nI_1, pif_t ⟨z, c⟩]
        exact ⟨T2, rfl, (t2.tr s2.rst).tr q3.rst, q4⟩
      · rw [if_neg (show ¬ nI (covN (relN lgN B u k (ai S 198)).1 B k u) = 0 from fun y => c ((nI_eq (b := 0) (by omega) (by omega)).mp y)), nI_1, pif_f (fun y => c y.2)]
        exact ⟨T0, rfl, t2.tr s2.rst, s2.n.trans t3⟩
    · rw [if_neg z, nI_1, pif_f (fun y => z y.1)]
      exact ⟨T, rfl, t2, t3⟩
end Mr
theorem bits_off {a h : Nat} (ha : a < 64) (hh : h < 6) : nI a &&& (((1 : Int32) <<< (nI h &&& 31)) ^^^ (-1)) = nI (a &&& (63 - 2 ^ h)) ∧ a &&& (63 - 2 ^ h) < 64 ∧ ∀ x, x < 6 → ((a &&& (63 - 2 ^ h)).testBit x = true ↔ (¬ x = h ∧ a.testBit x = true)) := (show ∀ a, a < 64 → ∀ h, h < 6 → nI a &&& (((1 : Int32) <<< (nI h &&& 31)) ^^^ (-1)) = nI (a &&& (63 - 2 ^ h)) ∧ a &&& (63 - 2 ^ h) < 64 ∧ ∀ x, x < 6 → ((a &&& (63 - 2 ^ h)).testBit x = true ↔ (¬ x = h ∧ a.testBit x = true)) by decide +kernel) a ha h hh
theorem bits_on {a h : Nat} (ha : a < 64) (hh : h < 6) : nI a ||| ((1 : Int32) <<< (nI h &&& 31)) = nI (a ||| 2 ^ h) ∧ a ||| 2 ^ h < 64 ∧ ∀ x, x < 6 → ((a ||| 2 ^ h).testBit x = true ↔ (x = h ∨ a.testBit x = true)) := (show ∀ a, a < 64 → ∀ h, h < 6 → nI a ||| ((1 : Int32) <<< (nI h &&& 31)) = nI (a ||| 2 ^ h) ∧ a ||| 2 ^ h < 64 ∧ ∀ x, x < 6 → ((a ||| 2 ^ h).testBit x = true ↔ (x = h ∨ a.testBit x = true)) by decide +kernel) a ha h hh
section A
variable {F : Nat} {S : St} {n : Nat}
/-- the class's change -/
theorem e_setHold {T1 : St} {p h : Nat} {b : Int32} {N B : Nat → Int32} (g : Cl T1 n p N B) (hp : 27 ≤ p ∧ p + 20 < 212) (hs : SpF T1 p) (hh : h < kN N 6) (hb : b = 0 ∨ b = 1) (hF : 1000 ≤ F) {u : Nat} (hu : N (205 + 21 * h) = nI u) (hu4 : u < kN N 4) :
    ∃ T2, (if b = 0 then (Option.bind (f_X8_releaseHold F T1 p (nI h)) fun z21 => lt z21.1 fun r23 => lt z21.2 fun S22 => some ((.inr r23 : Nat ⊕ Int32), S22)) else some (.inr 0, ui T1 703 p ((si T1 703 p) ||| (1 <<< (nI h &&& 31))))) = some (.inr (if b = 0 then nI (relN lgN B u (kN N 7) (upd N (208 + 21 * h) b)).2 else 0), T2) ∧ Cl T2 n p (if b = 0 then (relN lgN B u (kN N 7) (upd N (208 + 21 * h) b)).1 else upd N (208 + 21 * h) b) B ∧ (∀ i, ¬ i = p → ¬ i = p + 3 → ¬ i = p + 6 → ¬ i = p + 9 → ¬ i = p + 10 → ¬ (p + 13 ≤ i ∧ i ≤ p + 16) → SameO T1 T2 i) ∧ (∀ f i, sr T2 f i = sr T1 f i) ∧ ln T2 = ln T1 ∧ (b = 0 → ∀ k, k ≤ kN N 7 → WF (relN lgN B u k (upd N (208 + 21 * h) b)).1 B) := by
  have C := g.c0
  have w := C.wb
  have b4 := w.n4.2
  have b6 := w.n6.2
  have b7 := w.n7.2
  obtain ⟨act, a1, a2, a3⟩ := C.ac
  rcases hb with rfl | rfl
  · obtain ⟨y1, y2, y3⟩ := bits_off a2 (show h < 6 by omega)
    obtain ⟨M, hM⟩ : ∃ M, M = upd N (208 + 21 * h) 0 := ⟨_, rfl⟩
    have g1 : Cl (ui T1 703 p (nI (act &&& (63 - 2 ^ h)))) n p M B := by
      rw [hM]
      refine g.hold hp hh (Or.inl rfl) y2 (fun x hx => ?_)
      rw [y3 x hx, a3 x hx]
      by_cases z : x = h
      · rw [if_pos z]
        exact ⟨fun q => absurd z q.1, fun q => absurd q.2 (by decide)⟩
      · rw [if_neg z]
        exact ⟨fun q => q.2, fun q => ⟨z, q⟩⟩
    have k7 : kN M 7 = kN N 7 := by unfold kN; rw [hM, upd_n (by omega)]
    have k4 : kN M 4 = kN N 4 := by unfold kN; rw [hM, upd_n (by omega)]
    have hs1 : SpF (ui T1 703 p (nI (act &&& (63 - 2 ^ h)))) p := hs.frm (fun _ _ => rfl) rfl
    have E := e_release (F := F) g1 hp hs1 (u := u) (by rw [k4]; exact hu4) hF
    rw [k7] at E
    obtain ⟨T2, t1, t2, t3, t4, t5⟩ := E (kN N 7) (Nat.le_refl _)
    obtain ⟨r, r1, r2, r3⟩ := C.ru
    have rh : ai T1 (r + 15) h = nI u := ((r3.2.2.2.2.2 h hh).1).trans hu
    obtain ⟨fu, f1, f2⟩ := sub_fuel (F := F) (k := kN N 7) (by omega)
    have lo := relN_lo (L := lgN) (N := M) (B := B) (u := u) isLg_lg (by omega) (by unfold kN; rw [hM, upd_n (by omega)]; exact w.n8.2) (kN N 7) (by omega)
    have m7 : M 7 = N 7 := by rw [hM, upd_n (by omega)]
    have e7 : kN (relN lgN B u (kN N 7) M).1 7 = kN N 7 := congrArg Int32.toNatClampNeg ((lo 7 (by omega) (by omega) (by unfold xD; omega) (by unfold xS; omega)).trans m7)
    have s5 : si T2 705 p = nI (kN N 7) := by rw [t2.c0.s705, e7]
    have le := relN_le (L := lgN) (N := M) (B := B) (u := u) (kN N 7)
    refine ⟨T2, ?_, ?_, fun i i0 i3 i6 i9 i10 i13 => (SameO.ui _ i0).tr (t3 i i3 i6 i9 i10 i13), fun f i => (t4 f i).trans rfl, t5.trans rfl, fun _ k hk => ?_⟩
    · rw [if_pos rfl, if_pos rfl]
      unfold f_X8_releaseHold
      rw [a1, y1]
      simp only [lt_eq]
      rw [sr_ui, r1, ob_some, r3.1.r612_0, ob_some, e_at (by rw [ln_ui, r3.1.l15]; omega) (by rw [ln_ui, r3.1.l15]; omega), ob_some, ai_ui, rh]
      simp only [lt_eq]
      rw [t1, f1]
      unfold f_X8_releaseHold_L31
      rw [s5, if_pos (nI_le (Nat.le_refl _) (by omega)), ob_some, ← hM]
    · rw [if_pos rfl, ← hM]; exact t2
    · rw [← hM]
      obtain ⟨T3, -, c2, -⟩ := E k hk
      exact c2.c0.wf
  · obtain ⟨y1, y2, y3⟩ := bits_on a2 (show h < 6 by omega)
    refine ⟨ui T1 703 p (nI (act ||| 2 ^ h)), ?_, ?_, fun i i0 _ _ _ _ _ => SameO.ui _ i0, fun _ _ => rfl, rfl, fun z => absurd z (by decide)⟩
    · rw [if_neg (by decide), if_neg (by decide), a1, y1]
    · rw [if_neg (by decide)]
      refine g.hold hp hh (Or.inr rfl) y2 (fun x hx => ?_)
      rw [y3 x hx, a3 x hx]
      by_cases z : x = h
      · rw [if_pos z]
        exact ⟨fun _ => ⟨by omega, rfl⟩, fun _ => Or.inl z⟩
      · rw [if_neg z]
        exact ⟨fun q => q.resolve_left z, fun q => Or.inr q⟩
end A
