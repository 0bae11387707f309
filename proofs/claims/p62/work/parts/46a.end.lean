/-! behind the nine messages: sums, then each sort's digest -/
theorem cnt_all {Q : Nat → Prop} : ∀ b, (∀ k, k < b → Q k) → cntP Q b = b := by
  intro b
  induction b with
  | zero => intro _; rfl
  | succ b ih => intro h; rw [cntP_s, ih (fun k hk => h k (by omega)), pif_t (h b (by omega))]
section En
variable {F : Nat} {S : St} {n a many ev : Nat} {X : XS} {N B : Nat → Int32} {P : PS} {us ab : Nat → Nat}
theorem LN.is1 (h : LN X N B P us ab many ev) {q : Nat} (hq : q < kN N 8) : isN N q = 1 ∧ deN N q = -1 := by
  obtain ⟨s, s1, s2⟩ := h.2.1.1.2 q hq
  obtain ⟨-, b1, b2, -⟩ := h.2.1.1.1 s s1 (by omega)
  rw [show P.1 s - 1 = q by omega] at b1 b2
  exact ⟨b1, b2⟩
theorem l_end (hF : 100000 ≤ F) (ls : LwS X S n a N B P us ab many ev) (fu : Nat) : f_L_law_L77 F (fu + 1) S n X 0 a (a + 1) (a + 2) (nI P.2.1) (nI P.2.2) (nI many) (nI ev) (nI 9) = f_L_law_L577 F F S n X 0 a (a + 1) (a + 2) (nI P.2.2) 0 := by
  obtain ⟨c, h, av⟩ := ls
  have hx := c.fx
  have cl := c.cl
  have e1 : cntP (fun q => isN N q = 1) (kN N 8) = P.2.1 := by rw [cnt_all (kN N 8) (fun k hk => (h.is1 hk).1)]; exact h.2.1.2.1
  unfold f_L_law_L77
  rw [if_pos (show (9 : Int32) ≤ nI 9 by decide), a_storedParts hx cl, ob_some]
  simp only [lt_eq]
  rw [e1, if_neg (fun y => y rfl), a_storedBytes hx cl (by omega), ob_some]
  simp only []
  rw [h.2.1.2.2, if_neg (fun y => y rfl), a_deadBytes hx cl (fun q hq => (h.is1 hq).2) (by omega), ob_some]
  simp only []
  rw [if_neg (fun y => y True.intro), a_msgCount hx cl, ob_some]
  simp only []
  rw [h.2.2.1.1, if_neg (fun y => y rfl), a_evCount hx cl, ob_some]
  simp only []
  rw [h.2.2.1.2, if_pos rfl]
noncomputable def hsS (s k : Nat) : Int64 := runN (fun k (a : Int64) => (a ^^^ (chL (ptL s) k).toInt64) * 1099511628211) k 0 (-3750763034362895579)
theorem hs_s {s k : Nat} : hsS s (k + 1) = (hsS s k ^^^ (chL (ptL s) k).toInt64) * 1099511628211 := by
  unfold hsS
  rw [runN_s, Nat.zero_add]
theorem l_602 (hF : 100000 ≤ F) (ls : LwS X S n a N B P us ab many ev) {k577 : St → Nat → XS → Nat → Nat → Nat → Nat → Int32 → Int32 → Option (Int32 × St × Nat)} {s : Nat} (hs : s < 6) (hz : ¬ P.1 s = 0) {v6 : Int32} : ∀ d k fu, k + d = (ptL s).length → d < fu → f_L_law_L602 F k577 fu S n X 0 a (a + 1) (a + 2) v6 (nI s) (hsS s k) (nI k) = k577 S n X 0 a (a + 1) (a + 2) v6 (nI (s + 1)) := by
  obtain ⟨c, h, av⟩ := ls
  have hx := c.fx
  have cl := c.cl
  have l6 := c.2.1.2.2.1.1
  obtain ⟨p1, p2, p3, p4, p5⟩ := h.2.1.1.1 s hs hz
  have b8 := cl.c0.wb.n8.2
  have lb := ptL_b s hs
  have nu : ai S a s = nI (P.1 s - 1) := by rw [av.1 s hs]; exact if_neg hz
  have tx : Tx S 0 (15 + s) (ptL s) := Tx.cst (x := 15 + s) (by omega)
  intro d
  induction d with
  | zero =>
    intro k fu hk hfu
    obtain ⟨fu, rfl⟩ : ∃ q, fu = q + 1 := ⟨fu - 1, by omega⟩
    have e : k = (ptL s).length := by omega
    subst e
    have dg : runN (fun k (a : Int64) => (a ^^^ ((B (200 * (P.1 s - 1) + k)) &&& 255).toInt64) * 1099511628211) (kN N (4771 + 3 * (P.1 s - 1))) 0 (-3750763034362895579) = hsS s (ptL s).length := by
      rw [p4]
      unfold hsS
      refine runN_e (fun k a hk => ?_)
      have as : (0 : Int32) ≤ chL (ptL s) k ∧ chL (ptL s) k ≤ 127 := ascL_get (pt_asc hs) hk
      rw [p5 k hk, and255 as]
    unfold f_L_law_L602
    rw [e_part hs, ob_some]
    simp only [lt_eq]
    rw [e_len tx, ob_some]
    simp only []
    rw [if_pos (nI_le (Nat.le_refl _) (by omega)), l6, cki_nI (by omega) (by omega), nI_clamp (by omega), nu, a_digest hx cl p1 p2 (by omega), ob_some]
    simp only [sm_r]
    rw [dg, if_neg (fun y => y ((lg_cmp_eq _ _).mpr rfl)), cki_nI (by omega) (by omega), nu, a_part0 hx cl p1 p2, ob_some]
    simp only [sm_r]
    rw [e_part hs, ob_some]
    simp only []
    rw [e_len tx, ob_some]
    simp only []
    rw [p4, if_neg (fun y => y rfl), cki_nI (by omega) (by omega), nu, a_part2 hx cl p1 p2, ob_some]
    simp only [sm_r]
    rw [p3, if_pos rfl]
    unfold f_L_law_L690
    rw [lt_eq, nI_1]
  | succ d ih =>
    intro k fu hk hfu
    obtain ⟨fu, rfl⟩ : ∃ q, fu = q + 1 := ⟨fu - 1, by omega⟩
    rw [← ih (k + 1) fu (by omega) (by omega)]
    conv => lhs; unfold f_L_law_L602
    rw [e_part hs, ob_some]
    simp only [lt_eq]
    rw [e_len tx, ob_some]
    simp only []
    rw [if_neg (nI_ge (by omega) (by omega)), e_part hs, ob_some]
    simp only []
    rw [e_charAt tx (pt_asc hs) (by omega) (by omega), ob_some]
    simp only []
    rw [nI_1, hs_s]
    rfl
theorem l_577 (hF : 100000 ≤ F) (ls : LwS X S n a N B P us ab many ev) {v6 : Int32} (hp : ∀ s, s < 6 → P.1 s ≤ 480) : ∀ d s fu, s + d = 6 → d < fu → f_L_law_L577 F fu S n X 0 a (a + 1) (a + 2) v6 (nI s) = f_L_law_L705 F F S n X 0 (a + 1) (a + 2) v6 FP.dconst0 0 0 := by
  intro d
  induction d with
  | zero =>
    intro s fu hs hfu
    obtain ⟨fu, rfl⟩ : ∃ q, fu = q + 1 := ⟨fu - 1, by omega⟩
    unfold f_L_law_L577
    rw [if_pos (show (6 : Int32) ≤ nI s from nI_le (a := 6) (by omega) (by omega))]
    rfl
  | succ d ih =>
    intro s fu hs hfu
    obtain ⟨fu, rfl⟩ : ∃ q, fu = q + 1 := ⟨fu - 1, by omega⟩
    have l6 := ls.1.2.1.2.2.1.1
    have nx := ih (s + 1) fu (by omega) (by omega)
    have b := hp s (by omega)
    conv => lhs; unfold f_L_law_L577
    rw [if_neg (show ¬ (6 : Int32) ≤ nI s from nI_ge (b := 6) (by omega) (by omega)), l6, cki_nI (by omega) (by omega), nI_clamp (by omega), ls.2.2.1 s (by omega)]
    by_cases z : P.1 s = 0
    · rw [if_neg (fun y => (nu_neg (by omega)).mp y z)]
      unfold f_L_law_L690
      rw [lt_eq, nI_1]
      exact nx
    · rw [if_pos ((nu_neg (by omega)).mpr z), lt_eq]
      have := l_602 (k577 := fun a0 a1 a2 a3 a4 a5 a6 a7 a8 => f_L_law_L577 F fu a0 a1 a2 a3 a4 a5 a6 a7 a8) hF ls (v6 := v6) (s := s) (by omega) z (ptL s).length 0 F (by omega) (by have := (ptL_b s (by omega)).2; omega)
      exact this.trans nx
end En
