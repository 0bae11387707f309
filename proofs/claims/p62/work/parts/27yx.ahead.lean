section La
variable {F : Nat} {S T : St} {n : Nat} {N B : Nat → Int32}
/-- no day to come changes anything but the day -/
def restP (N : Nat → Int32) (d : Nat) : Prop := (∀ D, d < D → D < bigD → ∀ m u, m < kN N 7 → u < kN N 4 → ¬ dueP N m u D) ∧ ∀ q, q < kN N 8 → isN N q = 1 → deN N q = -1
theorem restP.cong {M : Nat → Int32} {d : Nat} (r : restP N d) (h : EqC N M) (w : WB N B) : restP M d := by
  have b8 := w.n8.2
  refine ⟨fun D h1 h2 m u hm hu y => ?_, fun q hq hi => ?_⟩
  · rw [h.kn (by omega) (by omega)] at hm hu
    exact r.1 D h1 h2 m u hm hu ((due_cg h w hm hu).mp y)
  · rw [h.kn (by omega) (by omega)] at hq
    rw [h.is (by omega)] at hi
    rw [h.de (by omega)]
    exact r.2 q hq hi
theorem restP.step {L : (Nat → Int32) → Int32 → Int32 → Nat → Int32} (hL : isLg L) (r : restP N (kN N 2)) (w : WB N B) (hd : kN N 2 < 22000) : EqX (fun k => k = 2) N (dyN L B N).1 ∧ restP (dyN L B N).1 (kN N 2 + 1) := by
  have b2 := w.n2.2
  have b4 := w.n4.2
  have b7 := w.n7.2
  have b8 := w.n8.2
  have k7 : kN (dayN N) 7 = kN N 7 := dayN_k (by omega)
  have k8 : kN (dayN N) 8 = kN N 8 := dayN_k (by omega)
  have k4 : kN (dayN N) 4 = kN N 4 := dayN_k (by omega)
  have big2 : kN N 2 + 1 < bigD := by unfold bigD; omega
  have hE : EqX (fun k => k = 2) N (dayN N) := fun k _ _ z => dayN_n z
  have none : lvN L B (dayN N) (kN N 2 + 1) (kN N 7) = dayN N := by
    rw [← k7]
    exact lvN_none (fun m u hm hu y => r.1 (kN N 2 + 1) (by omega) big2 m u (by omega) (by omega) ((dueP_c hE (fun k z => Or.inl z) w (by omega) (by omega)).mp y)) _ (Nat.le_refl _)
  have rn : ∀ x, x ≤ kN N 8 → rndN L x (dayN N) = (dayN N, 0) := by
    intro x
    induction x with
    | zero => intro _; rfl
    | succ x ih =>
      intro hx
      rw [rndN_s, ih (by omega), pif_f]
      intro y
      have e1 : isN (dayN N) x = isN N x := dayN_n (by omega)
      have e2 : deN (dayN N) x = deN N x := dayN_n (by omega)
      obtain ⟨y1, y2, -⟩ := y
      rw [e1] at y1
      rw [e2] at y2
      exact y2 (r.2 x (by omega) y1)
  have E : EqX (fun k => k = 2) N (dyN L B N).1 := by
    intro k h1 h9 h2
    unfold dyN
    rw [none]
    unfold rdN
    by_cases z : ¬ (dayN N 2 - dayN N 2 / dayN N 1 * dayN N 1) = 0
    · rw [if_pos z]
      exact ((hL _ _ _).1 k h1 h9).trans (dayN_n h2)
    · rw [if_neg z, k8, rn _ (Nat.le_refl _)]
      exact (((hL _ _ _).1 k h1 h9).trans ((hL _ _ _).1 k h1 h9)).trans (dayN_n h2)
  refine ⟨E, fun D h1 h2 m u hm hu y => ?_, fun q hq hi => ?_⟩
  · rw [E.kn (by omega) (by omega) (by omega)] at hm hu
    exact r.1 D (by omega) h2 m u hm hu ((dueP_c E (fun k z => Or.inl z) w hm hu).mp y)
  · rw [E.kn (by omega) (by omega) (by omega)] at hq
    rw [E.is (fun k z => by omega) (by omega)] at hi
    rw [E.de (fun k z => by omega) (by omega)]
    exact r.2 q hq hi
end La
/-! the days to come, for the class and for the model -/
noncomputable def mN (B N : Nat → Int32) (i : Nat) : Nat → Int32 := (dysN lg0 B N i).1
noncomputable def cN (B N : Nat → Int32) (i : Nat) : Nat → Int32 := (dysN lgN B N i).1
def ThS (B N : Nat → Int32) (K : Nat) : Prop := ∀ i, i ≤ K → WB (mN B N i) B ∧ kN (mN B N i) 2 = kN N 2 + i ∧ (i < K → lvW lg0 B (dayN (mN B N i)) (kN N 2 + i + 1)) ∧ (∀ k, hiP k → mN B N i k = N k) ∧ EqC (cN B N i) (mN B N i)
section Sq
variable {F : Nat} {S T : St} {n : Nat} {N B : Nat → Int32} {K : Nat}
end Sq
