/-! all that are due leave: the class -/
noncomputable def lvU (L : (Nat → Int32) → Int32 → Int32 → Nat → Int32) (B N0 : Nat → Int32) (D m x : Nat) (a : Nat → Int32) : Nat → Int32 := runN (fun u a => pif (dueP N0 m u D) (lv1 L a B m u) a) x 0 a
noncomputable def lvN (L : (Nat → Int32) → Int32 → Int32 → Nat → Int32) (B N0 : Nat → Int32) (D x : Nat) : Nat → Int32 := runN (fun m a => lvU L B N0 D m (kN N0 4) a) x 0 N0
/-- what has not been visited yet stands as before -/
def lvS (N0 : Nat → Int32) (m x : Nat) (a : Nat → Int32) : Prop := ∀ k, k < 6211 → ¬ k = 9 → ¬ xD k → (k < 1171 ∨ 4771 ≤ k ∨ 1171 + 3 * (10 * m + x) ≤ k) → a k = N0 k
section Lw
variable {L : (Nat → Int32) → Int32 → Int32 → Nat → Int32} {N0 B a : Nat → Int32} {D m x : Nat}
theorem lvU_0 : lvU L B N0 D m 0 a = a := rfl
theorem lvU_s : lvU L B N0 D m (x + 1) a = pif (dueP N0 m x D) (lv1 L (lvU L B N0 D m x a) B m x) (lvU L B N0 D m x a) := by
  unfold lvU
  rw [runN_s, Nat.zero_add]
theorem lvN_0 : lvN L B N0 D 0 = N0 := rfl
theorem lvN_s : lvN L B N0 D (x + 1) = lvU L B N0 D x (kN N0 4) (lvN L B N0 D x) := by
  unfold lvN
  rw [runN_s, Nat.zero_add]
theorem lvS.nums (h : lvS N0 m x a) {k : Nat} (hk : k < 1171) (h9 : ¬ k = 9) : a k = N0 k := h k (by omega) h9 (by unfold xD; omega) (Or.inl hk)
theorem lvS.kn (h : lvS N0 m x a) {k : Nat} (hk : k < 1171) (h9 : ¬ k = 9) : kN a k = kN N0 k := by unfold kN; rw [h.nums hk h9]
theorem lvS.step (hL : isLg L) (h : lvS N0 m x a) (b8 : kN N0 8 ≤ 480) (hm : m < 120) (hx : x < 10) : lvS N0 m (x + 1) (pif (dueP N0 m x D) (lv1 L a B m x) a) := by
  intro k h1 h9 hd hr
  by_cases z : dueP N0 m x D
  · rw [pif_t z, lv1_lo hL (by rw [h.kn (by omega) (by omega)]; exact b8) h1 h9 hd (by omega) (by omega) (by omega)]
    exact h k h1 h9 hd (by omega)
  · rw [pif_f z]; exact h k h1 h9 hd (by omega)
end Lw
section Lx
variable {F : Nat} {S : St} {n p d : Nat} {N0 B : Nat → Int32}
theorem e_leaveU (hp : 27 ≤ p ∧ p + 20 < 212) (hs : SpF S p) (w0 : WB N0 B) (P : Pln S p N0 d) {D : Nat} (hD : d < D ∧ D < bigD) (hday : N0 2 = nI D) {m : Nat} (hm : m < kN N0 7) (hF : 1000 ≤ F) (k2 : St → Nat → Int32 → Option St) :
    ∀ e x fu T a, x + e = kN N0 4 → e < fu → Cl T n p a B → LvF S T p → lvS N0 m x a → (∀ y, y ≤ x → True) → ∃ T', f_X8_leaveClasses_L12 F k2 fu T p (nI m) (nI x) = k2 T' p (nI (m + 1)) ∧ Cl T' n p (runN (fun u a => pif (dueP N0 m u D) (lv1 lgN a B m u) a) e x a) B ∧ LvF S T' p ∧ lvS N0 m (kN N0 4) (runN (fun u a => pif (dueP N0 m u D) (lv1 lgN a B m u) a) e x a) := by
  have b4 := w0.n4.2
  have b7 := w0.n7.2
  have b8 := w0.n8.2
  intro e
  induction e with
  | zero =>
    intro x fu T a hx hfu g f s _
    obtain ⟨fu, rfl⟩ : ∃ f', fu = f' + 1 := ⟨fu - 1, by omega⟩
    have : x = kN N0 4 := by omega
    subst this
    obtain ⟨r, h1, h2, h3⟩ := e_users g.c0
    rw [s.kn (by omega) (by omega)] at h3
    refine ⟨T, ?_, g, f, s⟩
    unfold f_X8_leaveClasses_L12
    rw [h1, ob_some, h2, ob_some, h3, if_pos (nI_le (Nat.le_refl _) (by omega)), nI_1, lt_eq]
  | succ e ih =>
    intro x fu T a hx hfu g f s _
    obtain ⟨fu, rfl⟩ : ∃ f', fu = f' + 1 := ⟨fu - 1, by omega⟩
    have C := g.c0
    have wa := C.wb
    have ba := wa.n3.2
    have hsT : SpF T p := hs.frm f.2.1 f.2.2
    obtain ⟨r, h1, h2, h3⟩ := e_users C
    rw [s.kn (by omega) (by omega)] at h3
    obtain ⟨r', q1, q2, q3⟩ := C.ru
    rw [h1] at q1
    cases q1
    have k7 : kN a 7 = kN N0 7 := s.kn (by omega) (by omega)
    have k4 : kN a 4 = kN N0 4 := s.kn (by omega) (by omega)
    obtain ⟨c1, c2⟩ := clK_lt wa (m := m) (u := x) (by omega) (by omega)
    have l17 := hsT.l17
    obtain ⟨w, -, -, P2⟩ := P
    obtain ⟨v, v1, v2, -, v4⟩ := P2 m x hm (by omega)
    have row17 : ai T (p + 17) (10 * m + x) = nI v := by rw [(f.1 (p + 17) (by omega) (by omega) (by omega) (by omega) (by omega) (by omega) (by omega)).row]; exact v1
    have s701 : si T 701 p = nI D := by rw [C.s701, s.nums (by omega) (by omega)]; exact hday
    have big : bigD < 2 ^ 31 := by unfold bigD; omega
    have due := v4 D hD.1 hD.2
    have e0 : stN a m x = stN N0 m x := s _ (by omega) (by omega) (by unfold xD; omega) (by omega)
    have rn : ∀ b : Nat → Int32, runN (fun u a => pif (dueP N0 m u D) (lv1 lgN a B m u) a) (e + 1) x b = runN (fun u a => pif (dueP N0 m u D) (lv1 lgN a B m u) a) e (x + 1) (pif (dueP N0 m x D) (lv1 lgN b B m x) b) := fun b => rfl
    have s2 := s.step (L := lgN) (B := B) (D := D) isLg_lg b8 (by omega) (by omega)
    conv => enter [1, T, 1, 1]; unfold f_X8_leaveClasses_L12
    rw [h1, ob_some, h2, ob_some, h3, if_neg (nI_ge (by omega) (by omega)), ob_some, q3.1.r605_0, ob_some, e_retOf C hsT (by omega) (by omega), ob_some, c2]
    simp only [lt_eq]
    rw [e_at (by rw [q3.1.l5]; omega) (by rw [q3.1.l5]; omega), ob_some, (q3.2.2.1 _ c1).2.2.1]
    simp only [lt_eq]
    rw [hsT.r712_0, ob_some, show (10 : Int32) = nI 10 from rfl, nI_mul, nI_add, show m * 10 + x = 10 * m + x by omega, e_at (by omega) (by omega), ob_some, row17, s701]
    simp only [lt_eq]
    unfold f_X8_leaveClasses_L68 f_X8_leaveClasses_L90 f_X8_leaveClasses_L115
    rw [rn]
    by_cases z : dueP N0 m x D
    · have vd := due.mpr z
      obtain ⟨T1, t1, t2, t3⟩ := e_lv1 (F := F) g hp hsT (m := m) (u := x) (by omega) (by omega) (e0.trans z.1) hF (fun S26 => lt (nI x + 1) fun x1 => f_X8_leaveClasses_L12 F k2 fu S26 p (nI m) x1)
      rw [pif_t z] at s2 ⊢
      obtain ⟨T', r1, r2⟩ := ih (x + 1) fu T1 (lv1 lgN a B m x) (by omega) (by omega) t2 (f.tr t3) s2 (fun _ _ => True.intro)
      refine ⟨T', ?_, r2⟩
      rw [← r1, if_neg (le_nlt.mp (nI_le vd (by omega))), if_neg (show ¬ (1 : Int32) = 0 by decide), if_neg (show ¬ (1 : Int32) = 0 by decide)]
      refine t1.trans ?_
      simp only [lt_eq, nI_1]
    · have vd : ¬ v ≤ D := fun y => z (due.mp y)
      rw [pif_f z] at s2 ⊢
      obtain ⟨T', r1, r2⟩ := ih (x + 1) fu T a (by omega) (by omega) g f s2 (fun _ _ => True.intro)
      refine ⟨T', ?_, r2⟩
      rw [← r1, if_pos (nI_lt (by omega) (by omega)), if_pos rfl, if_pos rfl, lt_eq, nI_1]
end Lx
