/-! the class plans -/
/-- the newer live references of a user in the same class -/
noncomputable def newN (N : Nat → Int32) (m u : Nat) : Nat := cntP (fun m' => m < m' ∧ stN N m' u = 0 ∧ clN N m' u = clN N m u) (kN N 7)
noncomputable def plV (N : Nat → Int32) (m u : Nat) : Nat := if stN N m u = 0 then dueV N m u (newN N m u) else bigD
section Sf
variable {F : Nat} {S T : St} {n p : Nat} {N B : Nat → Int32}
/-- what planning may write -/
def PlF (S T : St) (p : Nat) : Prop := (∀ i, ¬ i = p → ¬ i = p + 17 → ¬ i = p + 18 → SameO S T i) ∧ (∀ f, ¬ f = 713 → si T f p = si S f p) ∧ (∀ f i, sr T f i = sr S f i) ∧ ln T = ln S ∧ (∀ i, ¬ i = p + 17 → ¬ i = p + 18 → ai T i = ai S i) ∧ al T = al S ∧ ar T = ar S
theorem PlF.rf (S : St) (p : Nat) : PlF S S p := ⟨fun i _ _ _ => SameO.rf S i, fun _ _ => rfl, fun _ _ => rfl, rfl, fun _ _ _ => rfl, rfl, rfl⟩
theorem PlF.tr {U : St} (h : PlF S T p) (g : PlF T U p) : PlF S U p := ⟨fun i a b c => (h.1 i a b c).tr (g.1 i a b c), fun f a => (g.2.1 f a).trans (h.2.1 f a), fun f i => (g.2.2.1 f i).trans (h.2.2.1 f i), g.2.2.2.1.trans h.2.2.2.1, fun i a b => (g.2.2.2.2.1 i a b).trans (h.2.2.2.2.1 i a b), g.2.2.2.2.2.1.trans h.2.2.2.2.2.1, g.2.2.2.2.2.2.trans h.2.2.2.2.2.2⟩
theorem PlF.uai {i k : Nat} (v : Int32) (h : i = p + 17 ∨ i = p + 18) : PlF S (uai S i k v) p := ⟨fun j a b c => SameO.uai v (by omega), fun _ _ => rfl, fun _ _ => rfl, rfl, fun j a b => by funext z; rw [ai_uai, if_neg (by omega)], rfl, rfl⟩
theorem PlF.ui (v : Int32) : PlF S (ui S 713 p v) p := ⟨fun j a b c => SameO.ui v a, fun f h => by rw [si_ui, if_neg (fun z => h z.1)], fun _ _ => rfl, rfl, fun _ _ _ => rfl, rfl, rfl⟩
theorem Cl.soft (g : Cl S n p N B) (hp : 27 ≤ p ∧ p + 20 < 212) (h : PlF S T p) : Cl T n p N B := by
  have C := g.c0
  have w := C.wb
  obtain ⟨hO, h1, h2, h3, h4, h5, h6⟩ := h
  have hE : EqX (fun _ => False) N N := fun _ _ _ _ => rfl
  refine Cl.mk' (Cl0.x hE (fun k z => z.elim) w.n9 C (fun i hi => hO i (by omega) (by omega) (by omega)) (h2 700 p) ⟨h1 701 (by decide), h1 702 (by decide), h1 705 (by decide)⟩ w.wU w.wH w.wR w.wP (fun q hq => ⟨C.wf.link hq, C.wf.isd hq⟩) ?_ ?_ ?_ ?_ ?_) (g.cj.agr (fun i i1 i2 => hO i (by omega) (by omega) (by omega))) g.dy
  · obtain ⟨act, a1, a2, a3⟩ := C.ac
    exact ⟨act, (h1 703 (by decide)).trans a1, a2, a3⟩
  · intro c hc
    rw [(hO (p + 1) (by omega) (by omega) (by omega)).row]
    exact C.qu c hc
  · intro m x hm hx
    rw [(hO (p + 3) (by omega) (by omega) (by omega)).row, (hO (p + 4) (by omega) (by omega) (by omega)).row, (hO (p + 5) (by omega) (by omega) (by omega)).row]
    exact C.cf m x hm hx
  · have P6 := hO (p + 6) (by omega) (by omega) (by omega)
    rw [P6.1, P6.1, P6.1]
    exact ⟨rfl, C.cp.1.2⟩
  · intro q hq
    rw [(hO (p + 9) (by omega) (by omega) (by omega)).row, (hO (p + 10) (by omega) (by omega) (by omega)).row]
    exact ⟨(C.cp.2 q hq).2.2.1, (C.cp.2 q hq).2.2.2⟩
/-- the counts start at zero -/
theorem e_fill8 (hs : SpF S p) (hF : 1000 ≤ F) : ∃ T, f_J7_fill_53178 F S (p + 18) 0 = some T ∧ PlF S T p ∧ (∀ c, c < 8 → ai T (p + 18) c = 0) ∧ ai T (p + 17) = ai S (p + 17) ∧ si T 713 p = si S 713 p := by
  have l := hs.l18
  have loop : ∀ d k fu T, k + d = 8 → d < fu → PlF S T p → (∀ c, c < k → ai T (p + 18) c = 0) → ai T (p + 17) = ai S (p + 17) → si T 713 p = si S 713 p → ∃ T', f_J7_fill_53178_L5 F fu T (p + 18) 0 (nI k) (nI 8) = some T' ∧ PlF S T' p ∧ (∀ c, c < 8 → ai T' (p + 18) c = 0) ∧ ai T' (p + 17) = ai S (p + 17) ∧ si T' 713 p = si S 713 p := by
    intro d
    induction d with
    | zero =>
      intro k fu T hk hfu m1 m2 m3 m4
      obtain ⟨fu, rfl⟩ : ∃ f', fu = f' + 1 := ⟨fu - 1, by omega⟩
      have : k = 8 := by omega
      subst this
      refine ⟨T, ?_, m1, m2, m3, m4⟩
      unfold f_J7_fill_53178_L5
      rw [if_pos (nI_le (Nat.le_refl _) (by omega))]
    | succ d ih =>
      intro k fu T hk hfu m1 m2 m3 m4
      obtain ⟨fu, rfl⟩ : ∃ f', fu = f' + 1 := ⟨fu - 1, by omega⟩
      obtain ⟨T', t1, t2⟩ := ih (k + 1) fu (uai T (p + 18) k 0) (by omega) (by omega) (m1.tr (PlF.uai 0 (Or.inr rfl))) (fun c hc => by
        rw [ai_uai]
        by_cases z : c = k
        · rw [if_pos ⟨rfl, z⟩]
        · rw [if_neg (fun y => z y.2)]; exact m2 c (by omega)) (by rw [← m3]; funext z; rw [ai_uai, if_neg (by omega)]) m4
      refine ⟨T', ?_, t2⟩
      rw [← t1]
      conv => lhs; unfold f_J7_fill_53178_L5
      rw [if_neg (nI_ge (by omega) (by omega)), m1.2.2.2.1, l, cki_nI (by omega) (by omega), nI_clamp (by omega), lt_eq, lt_eq, nI_1]
  unfold f_J7_fill_53178
  rw [l]
  simp only [lt_eq]
  exact loop 8 0 F S (by omega) (by omega) (PlF.rf S p) (fun c hc => by omega) rfl rfl
end Sf
