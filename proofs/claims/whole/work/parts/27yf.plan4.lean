/-! the whole plan -/
/-- a live reference is due on day D -/
def dueP (N : Nat → Int32) (m u D : Nat) : Prop := stN N m u = 0 ∧ ¬ N (11 + 9 * clK N m u) = -1 ∧ kN N (12 + 9 * clK N m u) ≤ newN N m u ∧ kN N (1173 + 3 * (10 * m + u)) + kN N (11 + 9 * clK N m u) ≤ D
theorem plV_due {N : Nat → Int32} {m u D : Nat} (h : kN N 2 < D) (hD : D < bigD) : plV N m u ≤ D ↔ dueP N m u D := by
  unfold plV dueP dueV
  by_cases z : stN N m u = 0
  · rw [if_pos z]
    by_cases z1 : N (11 + 9 * clK N m u) = -1
    · rw [if_pos z1]
      exact ⟨fun y => absurd y (by omega), fun y => absurd z1 y.2.1⟩
    · rw [if_neg z1]
      by_cases z2 : kN N (12 + 9 * clK N m u) ≤ newN N m u
      · rw [if_pos z2]
        constructor
        · intro y
          refine ⟨z, z1, z2, ?_⟩
          by_cases z3 : kN N 2 + 1 < kN N (1173 + 3 * (10 * m + u)) + kN N (11 + 9 * clK N m u)
          · rw [if_pos z3] at y; exact y
          · omega
        · intro y
          by_cases z3 : kN N 2 + 1 < kN N (1173 + 3 * (10 * m + u)) + kN N (11 + 9 * clK N m u)
          · rw [if_pos z3]; exact y.2.2.2
          · rw [if_neg z3]; omega
      · rw [if_neg z2]
        exact ⟨fun y => absurd y (by omega), fun y => absurd y.2.2.1 z2⟩
  · rw [if_neg z]
    exact ⟨fun y => absurd y (by omega), fun y => absurd y.1 z⟩
/-- the plan at p says what is due on the days after d -/
def Pln (S : St) (p : Nat) (N : Nat → Int32) (d : Nat) : Prop := ∃ w, si S 713 p = nI w ∧ w ≤ bigD ∧ ∀ m u, m < kN N 7 → u < kN N 4 → ∃ v, ai S (p + 17) (10 * m + u) = nI v ∧ v ≤ bigD ∧ w ≤ v ∧ ∀ D, d < D → D < bigD → (v ≤ D ↔ dueP N m u D)
section Pa
variable {F : Nat} {S : St} {n p : Nat} {N B : Nat → Int32}
theorem e_plan (g : Cl S n p N B) (hp : 27 ≤ p ∧ p + 20 < 212) (hs : SpF S p) (hF : 1000 ≤ F) : ∃ T, f_X8_planLeaving F S p = some T ∧ PlF S T p ∧ Pln T p N (kN N 2) := by
  have wb := g.c0.wb
  have b4 := wb.n4.2
  have b7 := wb.n7.2
  obtain ⟨r, h1, h2, h3⟩ := e_users g.c0
  have F0 : PlF S (ui S 713 p 1000000000) p := PlF.ui _
  have loop : ∀ d k fu T w, k + d = kN N 4 → d < fu → PlF S T p → (∀ m u, m < kN N 7 → u < k → ai T (p + 17) (10 * m + u) = nI (plV N m u)) → si T 713 p = nI w → w ≤ bigD → (∀ m u, m < kN N 7 → u < k → w ≤ plV N m u) → ∃ T' w', f_X8_planLeaving_L8 F fu T p (nI k) = some T' ∧ PlF S T' p ∧ (∀ m u, m < kN N 7 → u < kN N 4 → ai T' (p + 17) (10 * m + u) = nI (plV N m u)) ∧ si T' 713 p = nI w' ∧ w' ≤ bigD ∧ ∀ m u, m < kN N 7 → u < kN N 4 → w' ≤ plV N m u := by
    intro d
    induction d with
    | zero =>
      intro k fu T w hk hfu m1 m2 m3 m4 m5
      obtain ⟨fu, rfl⟩ : ∃ f', fu = f' + 1 := ⟨fu - 1, by omega⟩
      have : k = kN N 4 := by omega
      subst this
      refine ⟨T, w, ?_, m1, m2, m3, m4, m5⟩
      unfold f_X8_planLeaving_L8
      have P6 : si T 401 (r + 6) = nI (kN N 4) := by
        obtain ⟨r', q1, q2, q3⟩ := e_users (g.soft hp m1).c0
        rw [m1.2.2.1, h1] at q1
        cases q1
        exact q3
      rw [m1.2.2.1, h1, ob_some, m1.2.2.1, h2, ob_some, P6, if_pos (nI_le (Nat.le_refl _) (by omega))]
    | succ d ih =>
      intro k fu T w hk hfu m1 m2 m3 m4 m5
      obtain ⟨fu, rfl⟩ : ∃ f', fu = f' + 1 := ⟨fu - 1, by omega⟩
      have P6 : si T 401 (r + 6) = nI (kN N 4) := by
        obtain ⟨r', q1, q2, q3⟩ := e_users (g.soft hp m1).c0
        rw [m1.2.2.1, h1] at q1
        cases q1
        exact q3
      obtain ⟨V, w', v1, v2, v3, v4, v5, v6, v7⟩ := e_planOf (F := F) (g.soft hp m1) hp (hs.frm m1.2.2.1 m1.2.2.2.1) (u := k) (by omega) m3 m4 hF
      obtain ⟨T', w2, t1, t2⟩ := ih (k + 1) fu V w' (by omega) (by omega) (m1.tr v2) (fun m u hm hu => by
        by_cases z : u = k
        · rw [z]; exact v3 m hm
        · rw [v4 _ (by omega)]; exact m2 m u hm (by omega)) v5 (by omega) (fun m u hm hu => by
        by_cases z : u = k
        · rw [z]; exact v7 m hm
        · have := m5 m u hm (by omega); omega)
      refine ⟨T', w2, ?_, t2⟩
      rw [← t1]
      conv => lhs; unfold f_X8_planLeaving_L8
      rw [m1.2.2.1, h1, ob_some, m1.2.2.1, h2, ob_some, P6, if_neg (nI_ge (by omega) (by omega)), v1, ob_some, nI_1]
      simp only [lt_eq]
  obtain ⟨T, w, t1, t2, t3, t4, t5, t6⟩ := loop (kN N 4) 0 F (ui S 713 p 1000000000) bigD (by omega) (by omega) F0 (fun m u _ h => by omega) (by rw [si_ui, if_pos ⟨rfl, rfl⟩]; rfl) (Nat.le_refl _) (fun m u _ h => by omega)
  refine ⟨T, ?_, t2, w, t4, t5, fun m u hm hu => ⟨plV N m u, t3 m u hm hu, plV_le wb hm hu, t6 m u hm hu, fun D h1 h2 => plV_due h1 h2⟩⟩
  unfold f_X8_planLeaving
  rw [lt_eq]
  exact t1
end Pa
