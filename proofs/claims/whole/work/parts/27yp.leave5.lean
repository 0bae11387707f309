/-! all that are due leave: the model -/
def anyP (N0 : Nat → Int32) (D m x : Nat) : Prop := ∃ m' u, m' < kN N0 7 ∧ u < kN N0 4 ∧ (m' < m ∨ (m' = m ∧ u < x)) ∧ dueP N0 m' u D
section An
variable {N0 B a : Nat → Int32} {D m x : Nat} {L : (Nat → Int32) → Int32 → Int32 → Nat → Int32}
theorem anyP_0 : ¬ anyP N0 D 0 0 := fun ⟨m', u, _, _, h, _⟩ => by omega
theorem anyP_row : anyP N0 D (m + 1) 0 ↔ anyP N0 D m (kN N0 4) :=
  ⟨fun ⟨m', u, h1, h2, h3, h4⟩ => ⟨m', u, h1, h2, by omega, h4⟩, fun ⟨m', u, h1, h2, h3, h4⟩ => ⟨m', u, h1, h2, by omega, h4⟩⟩
theorem anyP_s (hm : m < kN N0 7) (hx : x < kN N0 4) : anyP N0 D m (x + 1) ↔ anyP N0 D m x ∨ dueP N0 m x D := by
  constructor
  · rintro ⟨m', u, h1, h2, h3, h4⟩
    by_cases z : m' = m ∧ u = x
    · rw [z.1, z.2] at h4; exact Or.inr h4
    · exact Or.inl ⟨m', u, h1, h2, by omega, h4⟩
  · rintro (⟨m', u, h1, h2, h3, h4⟩ | h)
    · exact ⟨m', u, h1, h2, by omega, h4⟩
    · exact ⟨m, x, hm, hx, by omega, h⟩
theorem lvS_row (hL : isLg L) (b8 : kN N0 8 ≤ 480) (hm : m < 120) (h : lvS N0 m 0 a) : ∀ x, x ≤ 10 → lvS N0 m x (lvU L B N0 D m x a) := by
  intro x
  induction x with
  | zero => intro _; exact h
  | succ x ih =>
    intro hx
    rw [lvU_s]
    exact (ih (by omega)).step hL b8 hm (by omega)
theorem lvS_next {U : Nat} (hU : U ≤ 10) (h : lvS N0 m U a) : lvS N0 (m + 1) 0 a := fun k h1 h9 hd hr => h k h1 h9 hd (by omega)
theorem lvS_all (hL : isLg L) (b8 : kN N0 8 ≤ 480) (b4 : kN N0 4 ≤ 10) (b7 : kN N0 7 ≤ 120) : ∀ m, m ≤ kN N0 7 → lvS N0 m 0 (lvN L B N0 D m) := by
  intro m
  induction m with
  | zero => intro _; exact fun k _ _ _ _ => rfl
  | succ m ih =>
    intro hm
    rw [lvN_s]
    exact lvS_next b4 (lvS_row hL b8 (by omega) (ih (by omega)) _ b4)
end An
section Sn
variable {F : Nat} {S : St} {B : Nat → Int32} {m x : Nat}
theorem m_seen (k8 : St → Nat → Int32 → Int32 → Option (Int32 × St)) (k28 : St → Nat → Int32 → Int32 → Int32 → Int32 → Option (Int32 × St)) (hx : FxF S) (w : WB (ai S 198) B) (hm : m < kN (ai S 198) 7) (hu : x < kN (ai S 198) 4) (v1 : Int32) (h5 : Cn (ai S 205) (ai S 198) m x) :
    ∃ T, f_X11_leaveAll_L80 F k8 k28 S 197 v1 (nI m) (nI (1171 + 3 * (10 * m + x))) (nI x) = k28 T 197 v1 (nI m) (nI (1171 + 3 * (10 * m + (x + 1)))) (nI (x + 1)) ∧ LvM S T ∧ ai T 198 = ai S 198 ∧ ai T 204 = ai S 204 ∧ Cn (ai T 205) (ai S 198) m (x + 1) := by
  have b3 := w.n3.2
  have b4 := w.n4.2
  have b7 := w.n7.2
  obtain ⟨c1, c2⟩ := clK_lt w hm hu
  obtain ⟨c, hc⟩ : ∃ c, c = clK (ai S 198) m x := ⟨_, rfl⟩
  rw [← hc] at c1 c2
  have e0 : ai S 198 (1171 + 3 * (10 * m + x)) = stN (ai S 198) m x := rfl
  have e1 : ai S 198 (1172 + 3 * (10 * m + x)) = nI c := c2
  have last : ∀ T : St, f_X11_leaveAll_L112 F k8 k28 T 197 v1 (nI m) (nI (1171 + 3 * (10 * m + x))) (nI x) = k28 T 197 v1 (nI m) (nI (1171 + 3 * (10 * m + (x + 1)))) (nI (x + 1)) := fun T => by
    unfold f_X11_leaveAll_L112
    rw [show (3 : Int32) = nI 3 from rfl, show (1 : Int32) = nI 1 from rfl, nI_add, nI_add, show 1171 + 3 * (10 * m + x) + 3 = 1171 + 3 * (10 * m + (x + 1)) by omega]
    simp only [lt_eq]
  unfold f_X11_leaveAll_L80
  rw [hx.r1001_197, ob_some, hx.l198, cki_nI (by omega) (by omega), nI_clamp (by omega), e0]
  by_cases z : stN (ai S 198) m x = 0
  · have F1 : LvM S (uai S 205 (8 * x + c) (ai S 205 (8 * x + c) + 1)) := LvM.uai _ (Or.inr rfl)
    refine ⟨uai S 205 (8 * x + c) (ai S 205 (8 * x + c) + 1), ?_, F1, ai_uaiN _ (by omega), ai_uaiN _ (by omega), by rw [ai_uaiE]; exact h5.up hm hu (by omega) z c2⟩
    rw [← last, if_neg (fun y => y z), hx.r1020_197, ob_some, ob_some, hx.l198, show (1 : Int32) = nI 1 from rfl, nI_add, show 1171 + 3 * (10 * m + x) + 1 = 1172 + 3 * (10 * m + x) by omega, cki_nI (by omega) (by omega), nI_clamp (by omega), e1, show (8 : Int32) = nI 8 from rfl, nI_mul, nI_add, hx.l205, cki_nI (by omega) (by omega), cki_nI (by omega) (by omega), nI_clamp (by omega)]
    simp only [lt_eq]
  · refine ⟨S, ?_, LvM.rf S, rfl, rfl, h5.skip z⟩
    rw [if_pos z, last]
end Sn
section Mla
variable {F : Nat} {S : St} {B : Nat → Int32} {L : (Nat → Int32) → Int32 → Int32 → Nat → Int32} {th : Int32}
/-- every net on the way is well-formed -/
def lvW (L : (Nat → Int32) → Int32 → Int32 → Nat → Int32) (B N0 : Nat → Int32) (D : Nat) : Prop := ∀ m x, m < kN N0 7 → x ≤ kN N0 4 → WF (lvU L B N0 D m x (lvN L B N0 D m)) B
theorem WF.dn {N : Nat → Int32} (h : WF N B) {m x : Nat} (hm : m < kN N 7) (hx : x < kN N 4) (hl : stN N m x = 0) : ∀ q, hasN N m q → deN N q = -1 := by
  rintro q ⟨i, hi, e⟩
  have hq : q < kN N 8 := by rw [← e]; exact ((h.wM m hm).2.2.2.2.2 i hi).2
  exact (h.link hq).mpr ⟨m, hm, ⟨i, hi, e⟩, x, hx, Int32.ge01 hl⟩
theorem m_leaveAll (hT : isTh L th) (hx : FxF S) (ht : si S 1005 197 = th) (hB : ai S 200 = B) (w0 : WB (ai S 198) B) {D : Nat} (hD : kN (ai S 198) 2 = D) (hW : lvW L B (ai S 198) D) (hF : 1000 ≤ F) :
    ∃ T, f_X11_leaveAll F S 197 = some (pI (anyP (ai S 198) D (kN (ai S 198) 7) 0), T) ∧ LvM S T ∧ ai T 198 = lvN L B (ai S 198) D (kN (ai S 198) 7) := by
  have b2 := w0.n2.2
  have b3 := w0.n3.2
  have b4 := w0.n4.2
  have b7 := w0.n7.2
  have b8 := w0.n8.2
  obtain ⟨N0, hN⟩ : ∃ N0, N0 = ai S 198 := ⟨_, rfl⟩
  rw [← hN] at w0 hD hW b2 b3 b4 b7 b8
  rw [← hN]
  have lvS0 := lvS_all (B := B) (D := D) hT.lg b8 b4 b7
  have row : ∀ (m : Nat) (k8 : St → Nat → Int32 → Int32 → Option (Int32 × St)), m < kN N0 7 → ∀ d x fu T, x + d = kN N0 4 → d < fu → LvM S T → ai T 198 = lvU L B N0 D m x (lvN L B N0 D m) → Cn (ai T 204) (ai T 198) (kN N0 7) 0 → Cn (ai T 205) (ai T 198) m x → ∃ T', f_X11_leaveAll_L28 F k8 fu T 197 (pI (anyP N0 D m x)) (nI m) (nI (1171 + 3 * (10 * m + x))) (nI x) = k8 T' 197 (pI (anyP N0 D (m + 1) 0)) (nI (m + 1)) ∧ LvM S T' ∧ ai T' 198 = lvN L B N0 D (m + 1) ∧ Cn (ai T' 204) (ai T' 198) (kN N0 7) 0 ∧ Cn (ai T' 205) (ai T' 198) (m + 1) 0 := by
    intro m k8 hm d
    induction d with
    | zero =>
      intro x fu T hk hfu m1 m2 m3 m4
      obtain ⟨fu, rfl⟩ : ∃ f', fu = f' + 1 := ⟨fu - 1, by omega⟩
      have hxT := m1.fx hx
      have : x = kN N0 4 := by omega
      subst this
      have s := lvS_row (B := B) (D := D) hT.lg b8 (by omega : m < 120) (lvS0 m (by omega)) (kN N0 4) b4
      rw [← m2] at s
      have k4 : kN (ai T 198) 4 = kN N0 4 := s.kn (by omega) (by omega)
      have e4 : ai T 198 4 = nI (kN N0 4) := (s.nums (by omega) (by omega)).trans w0.n4.1
      rw [← k4] at m4
      refine ⟨T, ?_, m1, by rw [m2, lvN_s], m3, m4.row⟩
      unfold f_X11_leaveAll_L28
      rw [hxT.r1001_197, ob_some, hxT.l198, show (4 : Int32) = nI 4 from rfl, cki_nI (by omega) (by omega), nI_clamp (by omega), e4, if_pos (nI_le (Nat.le_refl _) (by omega)), nI_1, pI_c anyP_row]
      simp only [lt_eq]
    | succ d ih =>
      intro x fu T hk hfu m1 m2 m3 m4
      obtain ⟨fu, rfl⟩ : ∃ f', fu = f' + 1 := ⟨fu - 1, by omega⟩
      have hxT := m1.fx hx
      have s := lvS_row (B := B) (D := D) hT.lg b8 (by omega : m < 120) (lvS0 m (by omega)) x (by omega)
      rw [← m2] at s
      have WFa := hW m x hm (by omega)
      rw [← m2] at WFa
      have w := WFa.wb
      obtain ⟨a, ha⟩ : ∃ a, a = ai T 198 := ⟨_, rfl⟩
      have k2 : kN a 2 = D := by rw [ha, s.kn (by omega) (by omega)]; exact hD
      have k4 : kN a 4 = kN N0 4 := by rw [ha]; exact s.kn (by omega) (by omega)
      have k7 : kN a 7 = kN N0 7 := by rw [ha]; exact s.kn (by omega) (by omega)
      have k8' : kN a 8 = kN N0 8 := by rw [ha]; exact s.kn (by omega) (by omega)
      have e4 : ai T 198 4 = nI (kN N0 4) := (s.nums (by omega) (by omega)).trans w0.n4.1
      have e0 : ai T 198 (1171 + 3 * (10 * m + x)) = stN a m x := by rw [ha]; rfl
      have due : dueP a m x D ↔ dueP N0 m x D := by rw [ha]; exact dueP_lv s w0 hm (by omega)
      obtain ⟨c1, c2⟩ := clK_lt w (m := m) (u := x) (by rw [← ha, k7]; exact hm) (by rw [← ha, k4]; omega)
      have b3' := w.n3.2
      rw [← ha] at s w WFa c1 c2 b3' m3 m4
      have nxt : lvU L B N0 D m (x + 1) (lvN L B N0 D m) = pif (dueP N0 m x D) (lv1 L a B m x) a := by rw [lvU_s, ← m2, ← ha]
      unfold f_X11_leaveAll_L28
      rw [hxT.r1001_197, ob_some, hxT.l198, show (4 : Int32) = nI 4 from rfl, cki_nI (by omega) (by omega), nI_clamp (by omega), e4, if_neg (nI_ge (by omega) (by omega)), ob_some, hxT.l198, cki_nI (by omega) (by omega), nI_clamp (by omega), e0]
      -- nothing leaves
      have stay : ¬ dueP N0 m x D → ∃ T', f_X11_leaveAll_L80 F k8 (fun a0 a1 a2 a3 a4 a5 => f_X11_leaveAll_L28 F k8 fu a0 a1 a2 a3 a4 a5) T 197 (pI (anyP N0 D m x)) (nI m) (nI (1171 + 3 * (10 * m + x))) (nI x) = k8 T' 197 (pI (anyP N0 D (m + 1) 0)) (nI (m + 1)) ∧ LvM S T' ∧ ai T' 198 = lvN L B N0 D (m + 1) ∧ Cn (ai T' 204) (ai T' 198) (kN N0 7) 0 ∧ Cn (ai T' 205) (ai T' 198) (m + 1) 0 := by
        intro nd
        obtain ⟨T1, t1, t2, t3, t4, t5⟩ := m_seen (F := F) k8 (fun a0 a1 a2 a3 a4 a5 => f_X11_leaveAll_L28 F k8 fu a0 a1 a2 a3 a4 a5) hxT (B := B) (m := m) (x := x) (by rw [← ha]; exact w) (by rw [← ha, k7]; exact hm) (by rw [← ha, k4]; omega) (pI (anyP N0 D m x)) (by rw [← ha]; exact m4)
        rw [pif_f nd] at nxt
        obtain ⟨T', r1, r2⟩ := ih (x + 1) fu T1 (by omega) (by omega) (m1.tr t2) (by rw [t3, nxt, ha]) (by rw [t3, t4, ← ha]; exact m3) (by rw [t3]; exact t5)
        refine ⟨T', ?_, r2⟩
        rw [t1, ← r1, pI_c (anyP_s hm (by omega)), pI_c (show anyP N0 D m x ∨ dueP N0 m x D ↔ anyP N0 D m x from ⟨fun y => y.resolve_right nd, Or.inl⟩)]
      by_cases z : stN a m x = 0
      rotate_left
      · obtain ⟨T', r1, r2⟩ := stay (fun y => z (due.mpr y).1)
        exact ⟨T', by rw [if_pos z]; exact r1, r2⟩
      have qd := m_isDue (F := F) hxT (B := B) (m := m) (x := x) (by rw [← ha]; exact w) (by rw [← ha, k7]; exact hm) (by rw [← ha, k4]; omega) (by rw [← ha]; exact z) (by rw [← ha, k7]; exact m3) (by rw [← ha]; exact m4)
      rw [← ha, k2, pI_c due] at qd
      rw [if_neg (fun y => y z), qd, ob_some]
      simp only [lt_eq]
      by_cases z2 : dueP N0 m x D
      rotate_left
      · obtain ⟨T', r1, r2⟩ := stay z2
        exact ⟨T', by rw [pI_f z2, if_pos rfl]; exact r1, r2⟩
      have cl := m_cls2 (F := F) hxT (c := clK a m x) (by omega)
      have e1 : ai T 198 (1172 + 3 * (10 * m + x)) = nI (clK a m x) := by rw [← ha]; exact c2
      have aB : ai T 200 = B := m1.1.2.1.trans hB
      obtain ⟨T1, t1, t2, t3, t4, t5⟩ := m_leave (F := F) (S := T) (B := B) (m := m) (x := x) hT hxT ((m1.1.1.2.2.1 1005 (by omega)).trans ht) aB (by rw [← ha]; exact w) (by rw [← ha, k7]; exact hm) (by rw [← ha, k4]; omega) (by rw [← ha]; exact z) (by rw [← ha, k7]; exact m3) (by rw [← ha]; exact m4) (by rw [← ha]; exact WFa.dn (by rw [k7]; exact hm) (by rw [k4]; omega) z) hF
      rw [← ha] at t1 t3 t4 t5
      rw [pif_t z2] at nxt
      have WF1 := hW m (x + 1) hm (by omega)
      rw [nxt, ← t3] at WF1
      have hx1 := t2.fx hxT
      have q4 : kN (lv1 L a B m x) 4 = kN N0 4 := by rw [lv1_k hT.lg (by omega) (by omega) (by omega), k4]
      have q7 : kN (lv1 L a B m x) 7 = kN N0 7 := by rw [lv1_k hT.lg (by omega) (by omega) (by omega), k7]
      obtain ⟨T2, s1, s2, s3, s4, s5⟩ := m_seen (F := F) k8 (fun a0 a1 a2 a3 a4 a5 => f_X11_leaveAll_L28 F k8 fu a0 a1 a2 a3 a4 a5) hx1 (B := B) (m := m) (x := x) WF1.wb (by rw [t3, q7]; exact hm) (by rw [t3, q4]; omega) 1 (by rw [t3]; exact t5)
      obtain ⟨T', r1, r2⟩ := ih (x + 1) fu T2 (by omega) (by omega) ((m1.tr t2).tr s2) (by rw [s3, t3, nxt]) (by rw [s3, s4, t3, ← q7]; exact t4) (by rw [s3]; exact s5)
      refine ⟨T', ?_, r2⟩
      rw [← r1, pI_t ((anyP_s hm (by omega)).mpr (Or.inr z2)), ← s1, pI_t z2, if_neg (show ¬ (1 : Int32) = 0 by decide), hxT.r1001_197, ob_some, hxT.l198, nI_1, show 1171 + 3 * (10 * m + x) + 1 = 1172 + 3 * (10 * m + x) by omega, cki_nI (by omega) (by omega), nI_clamp (by omega), e1, cl, ob_some]
      simp only [lt_eq]
      rw [← ha, t1, ob_some]
  have loop : ∀ d m fu T, m + d = kN N0 7 → d < fu → LvM S T → ai T 198 = lvN L B N0 D m → Cn (ai T 204) (ai T 198) (kN N0 7) 0 → Cn (ai T 205) (ai T 198) m 0 → ∃ T', f_X11_leaveAll_L8 F fu T 197 (pI (anyP N0 D m 0)) (nI m) = some (pI (anyP N0 D (kN N0 7) 0), T') ∧ LvM S T' ∧ ai T' 198 = lvN L B N0 D (kN N0 7) := by
    intro d
    induction d with
    | zero =>
      intro m fu T hk hfu m1 m2 m3 m4
      obtain ⟨fu, rfl⟩ : ∃ f', fu = f' + 1 := ⟨fu - 1, by omega⟩
      have hxT := m1.fx hx
      have : m = kN N0 7 := by omega
      subst this
      have s := lvS0 (kN N0 7) (Nat.le_refl _)
      rw [← m2] at s
      have e7 : ai T 198 7 = nI (kN N0 7) := (s.nums (by omega) (by omega)).trans w0.n7.1
      refine ⟨T, ?_, m1, m2⟩
      unfold f_X11_leaveAll_L8
      rw [hxT.r1001_197, ob_some, hxT.l198, show (7 : Int32) = nI 7 from rfl, cki_nI (by omega) (by omega), nI_clamp (by omega), e7, if_pos (nI_le (Nat.le_refl _) (by omega)), ck_t (pI01 _)]
    | succ d ih =>
      intro m fu T hk hfu m1 m2 m3 m4
      obtain ⟨fu, rfl⟩ : ∃ f', fu = f' + 1 := ⟨fu - 1, by omega⟩
      have hxT := m1.fx hx
      have s := lvS0 m (by omega)
      rw [← m2] at s
      have e7 : ai T 198 7 = nI (kN N0 7) := (s.nums (by omega) (by omega)).trans w0.n7.1
      obtain ⟨T1, t1, t2, t3, t4, t5⟩ := row m (fun a0 a1 a2 a3 => f_X11_leaveAll_L8 F fu a0 a1 a2 a3) (by omega) (kN N0 4) 0 F T (by omega) (by omega) m1 m2 m3 m4
      obtain ⟨T', r1, r2⟩ := ih (m + 1) fu T1 (by omega) (by omega) t2 t3 t4 t5
      refine ⟨T', ?_, r2⟩
      rw [← r1, ← t1]
      conv => lhs; unfold f_X11_leaveAll_L8
      have r0 : f_X11_refAt F T (nI m) 0 = some (nI (1171 + 3 * (10 * m + 0)), T) := m_refAt F T m 0
      rw [hxT.r1001_197, ob_some, hxT.l198, show (7 : Int32) = nI 7 from rfl, cki_nI (by omega) (by omega), nI_clamp (by omega), e7, if_neg (nI_ge (by omega) (by omega)), r0, ob_some]
      simp only [lt_eq]
      rfl
  obtain ⟨T1, t1, t2, t3, t4, t5⟩ := m_countLives (F := F) hx (B := B) (by rw [← hN]; exact w0) hF
  rw [← hN] at t3 t4 t5
  obtain ⟨T', r1, r2⟩ := loop (kN N0 7) 0 F T1 (by omega) (by omega) t2 t3 (by rw [t3]; exact t4) (by rw [t3]; exact t5)
  refine ⟨T', ?_, r2⟩
  unfold f_X11_leaveAll
  rw [t1, ob_some, ← r1, pI_f anyP_0]
  rfl
end Mla
