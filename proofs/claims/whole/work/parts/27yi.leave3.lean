/-! the class's leaving, and a day's begin -/
section Ly
variable {F : Nat} {S : St} {n p d : Nat} {N0 B : Nat → Int32}
theorem e_leaveAll (g0 : Cl S n p N0 B) (hp : 27 ≤ p ∧ p + 20 < 212) (hs : SpF S p) (P : Pln S p N0 d) {D : Nat} (hD : d < D ∧ D < bigD) (hday : N0 2 = nI D) (hF : 1000 ≤ F) :
    ∃ T, f_X8_leaveClasses F S p = some T ∧ Cl T n p (lvN lgN B N0 D (kN N0 7)) B ∧ LvF S T p ∧ lvS N0 (kN N0 7) 0 (lvN lgN B N0 D (kN N0 7)) := by
  have w0 := g0.c0.wb
  have b4 := w0.n4.2
  have b7 := w0.n7.2
  have loop : ∀ e m fu T, m + e = kN N0 7 → e < fu → Cl T n p (lvN lgN B N0 D m) B → LvF S T p → lvS N0 m 0 (lvN lgN B N0 D m) → ∃ T', f_X8_leaveClasses_L2 F fu T p (nI m) = some T' ∧ Cl T' n p (lvN lgN B N0 D (kN N0 7)) B ∧ LvF S T' p ∧ lvS N0 (kN N0 7) 0 (lvN lgN B N0 D (kN N0 7)) := by
    intro e
    induction e with
    | zero =>
      intro m fu T hm hfu g f s
      obtain ⟨fu, rfl⟩ : ∃ f', fu = f' + 1 := ⟨fu - 1, by omega⟩
      have : m = kN N0 7 := by omega
      subst this
      refine ⟨T, ?_, g, f, s⟩
      unfold f_X8_leaveClasses_L2
      rw [g.c0.s705, s.kn (by omega) (by omega), if_pos (nI_le (Nat.le_refl _) (by omega))]
    | succ e ih =>
      intro m fu T hm hfu g f s
      obtain ⟨fu, rfl⟩ : ∃ f', fu = f' + 1 := ⟨fu - 1, by omega⟩
      obtain ⟨T1, t1, t2, t3, t4⟩ := e_leaveU (F := F) hp hs w0 P hD hday (m := m) (by omega) hF (fun a0 a1 a2 => f_X8_leaveClasses_L2 F fu a0 a1 a2) (kN N0 4) 0 F T (lvN lgN B N0 D m) (by omega) (by omega) g f s (fun _ _ => True.intro)
      have en : runN (fun u a => pif (dueP N0 m u D) (lv1 lgN a B m u) a) (kN N0 4) 0 (lvN lgN B N0 D m) = lvN lgN B N0 D (m + 1) := by rw [lvN_s]; rfl
      rw [en] at t2 t4
      obtain ⟨T', r1, r2⟩ := ih (m + 1) fu T1 (by omega) (by omega) t2 t3 (fun k h1 h9 hd hr => t4 k h1 h9 hd (by omega))
      refine ⟨T', ?_, r2⟩
      rw [← r1]
      conv => lhs; unfold f_X8_leaveClasses_L2
      rw [g.c0.s705, s.kn (by omega) (by omega), if_neg (nI_ge (by omega) (by omega))]
      exact t1
  unfold f_X8_leaveClasses
  exact loop (kN N0 7) 0 F S (by omega) (by omega) g0 (LvF.rf S p) (fun k _ _ _ _ => rfl)
/-- nobody is due: nothing leaves -/
theorem lvN_none {L : (Nat → Int32) → Int32 → Int32 → Nat → Int32} {D : Nat} (h : ∀ m u, m < kN N0 7 → u < kN N0 4 → ¬ dueP N0 m u D) : ∀ x, x ≤ kN N0 7 → lvN L B N0 D x = N0 := by
  intro x
  induction x with
  | zero => intro _; rfl
  | succ x ih =>
    intro hx
    rw [lvN_s, ih (by omega)]
    have : ∀ y, y ≤ kN N0 4 → lvU L B N0 D x y N0 = N0 := by
      intro y
      induction y with
      | zero => intro _; rfl
      | succ y ih2 =>
        intro hy
        rw [lvU_s, ih2 (by omega), pif_f (h x y (by omega) (by omega))]
    exact this _ (Nat.le_refl _)
end Ly
