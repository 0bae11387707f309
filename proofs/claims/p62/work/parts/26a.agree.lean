/-! what a spool of the class rests on: its own objects, the rules, the objects that came later -/
def SameO (S S' : St) (i : Nat) : Prop := (∀ f, si S' f i = si S f i) ∧ (∀ f, sr S' f i = sr S f i) ∧ ai S' i = ai S i ∧ al S' i = al S i ∧ ar S' i = ar S i ∧ ln S' i = ln S i
theorem SameO.rf (S : St) (i : Nat) : SameO S S i := ⟨fun _ => rfl, fun _ => rfl, rfl, rfl, rfl, rfl⟩
theorem SameO.tr {S S' S'' : St} {i : Nat} (h : SameO S S' i) (g : SameO S' S'' i) : SameO S S'' i := ⟨fun f => (g.1 f).trans (h.1 f), fun f => (g.2.1 f).trans (h.2.1 f), g.2.2.1.trans h.2.2.1, g.2.2.2.1.trans h.2.2.2.1, g.2.2.2.2.1.trans h.2.2.2.2.1, g.2.2.2.2.2.trans h.2.2.2.2.2⟩
theorem SameO.sy {S S' : St} {i : Nat} (h : SameO S S' i) : SameO S' S i := ⟨fun f => (h.1 f).symm, fun f => (h.2.1 f).symm, h.2.2.1.symm, h.2.2.2.1.symm, h.2.2.2.2.1.symm, h.2.2.2.2.2.symm⟩
theorem SameO.ui {S : St} {f i j : Nat} (v : Int32) (h : ¬ j = i) : SameO S (ui S f i v) j := ⟨fun f' => by rw [si_ui, if_neg (fun z => h z.2)], fun _ => rfl, rfl, rfl, rfl, rfl⟩
theorem SameO.ur {S : St} {f i j : Nat} (v : Option Nat) (h : ¬ j = i) : SameO S (ur S f i v) j := ⟨fun _ => rfl, fun f' => by rw [sr_ur, if_neg (fun z => h z.2)], rfl, rfl, rfl, rfl⟩
theorem SameO.uai {S : St} {i k j : Nat} (v : Int32) (h : ¬ j = i) : SameO S (uai S i k v) j := ⟨fun _ => rfl, fun _ => rfl, by funext z; rw [ai_uai, if_neg (fun y => h y.1)], rfl, rfl, rfl⟩
theorem SameO.ual {S : St} {i k j : Nat} (v : Int64) (h : ¬ j = i) : SameO S (ual S i k v) j := ⟨fun _ => rfl, fun _ => rfl, rfl, by funext z; rw [al_ual, if_neg (fun y => h y.1)], rfl, rfl⟩
theorem SameO.uar {S : St} {i k j : Nat} (v : Option Nat) (h : ¬ j = i) : SameO S (uar S i k v) j := ⟨fun _ => rfl, fun _ => rfl, rfl, rfl, by funext z; rw [ar_uar, if_neg (fun y => h y.1)], rfl⟩
theorem SameO.sai {S : St} {i j : Nat} (v : Nat → Int32) (h : ¬ j = i) : SameO S (sai S i v) j := ⟨fun _ => rfl, fun _ => rfl, by rw [ai_sai, if_neg h], rfl, rfl, rfl⟩
theorem RuF.agr {S S' : St} {r : Nat} (h : RuF S r) (e : ∀ i, r ≤ i → i ≤ r + 18 → SameO S S' i) : RuF S' r :=
  ⟨fun q hq => by have := ruR_le q hq; rw [(e _ (by omega) (by omega)).2.1]; exact h.1 q hq, fun q hq => by
    have : q.1 ≤ 18 := (show ∀ q ∈ ruL, q.1 ≤ 18 by decide) q hq
    rw [(e _ (by omega) (by omega)).2.2.2.2.2]; exact h.2 q hq⟩
theorem CR.agr {S S' : St} {r : Nat} {N : Nat → Int32} (h : CR S r N) (e : ∀ i, r ≤ i → i ≤ r + 18 → SameO S S' i) : CR S' r N := by
  have A : ∀ k, k ≤ 18 → ai S' (r + k) = ai S (r + k) := fun k hk => (e _ (by omega) (by omega)).2.2.1
  have L : ∀ k, k ≤ 18 → al S' (r + k) = al S (r + k) := fun k hk => (e _ (by omega) (by omega)).2.2.2.1
  have I : ∀ f k, k ≤ 18 → si S' f (r + k) = si S f (r + k) := fun f k hk => (e _ (by omega) (by omega)).1 f
  have I0 : ∀ f, si S' f r = si S f r := fun f => I f 0 (by omega)
  obtain ⟨h1, h2, h3, h4, h5, h6⟩ := h
  refine ⟨h1.agr e, ?_, ?_, ?_, ?_, ?_⟩
  · simp only [I0, I _ 1 (by omega), I _ 6 (by omega), I _ 10 (by omega), I _ 13 (by omega)]
    exact h2
  · simp only [A 3 (by omega), A 4 (by omega), A 5 (by omega), L 2 (by omega)]
    exact h3
  · simp only [A 8 (by omega), L 7 (by omega)]
    exact h4
  · simp only [A 12 (by omega), L 11 (by omega)]
    exact h5
  · simp only [A 15 (by omega), A 16 (by omega), A 17 (by omega), L 18 (by omega), L 14 (by omega)]
    exact h6
theorem CJ.agr {S S' : St} {p : Nat} {N : Nat → Int32} (h : CJ S p N) (e : ∀ i, p + 13 ≤ i → i ≤ p + 16 → SameO S S' i) : CJ S' p N := by
  obtain ⟨g1, f, g2, g3, g4⟩ := h
  exact ⟨by rw [(e (p + 13) (by omega) (by omega)).1]; exact g1, f, g2, by rw [(e (p + 13) (by omega) (by omega)).1]; exact g3, by rw [(e (p + 14) (by omega) (by omega)).2.2.1, (e (p + 15) (by omega) (by omega)).2.2.1, (e (p + 16) (by omega) (by omega)).2.2.1]; exact g4⟩
theorem dyn.mono {n n' j w : Nat} (h : dyn n j w) (hn : n ≤ n') : dyn n' j w := ⟨h.1, Nat.le_trans h.2 hn⟩
/-- the parts of a message and of the store: objects that came later -/
theorem CM.agr {S S' : St} {n n' p : Nat} {N B : Nat → Int32} (h : CM S n p N B) (hn : n ≤ n') (e : ar S' (p + 2) = ar S (p + 2)) (d : ∀ i, 197 ≤ i → i < n → SameO S S' i) : CM S' n' p N B := by
  intro m hm
  obtain ⟨j, g1, g2, g3, g4, g5, g6, g7, g8, g9⟩ := h m hm
  have g2' := g2
  obtain ⟨a, b⟩ := g2'
  have D := d j a (by omega)
  have D1 := d (j + 1) (by omega) (by omega)
  exact ⟨j, by rw [e]; exact g1, g2.mono hn, by rw [D.2.1]; exact g3, by rw [D1.2.2.2.2.2]; exact g4, by rw [D.1]; exact g5, by rw [D.1]; exact g6, by rw [D.1]; exact g7, by rw [D1.2.2.1]; exact g8, by rw [D.1]; exact g9⟩
theorem Cl0.agr {S S' : St} {n n' p : Nat} {N B : Nat → Int32} (h : Cl0 S n p N B) (hn : n ≤ n') (e : ∀ i, (p ≤ i ∧ i ≤ p + 12) ∨ (1 ≤ i ∧ i ≤ 19) ∨ (197 ≤ i ∧ i < n) → SameO S S' i) : Cl0 S' n' p N B := by
  obtain ⟨h1, ⟨r, h2, h3, h4⟩, h5, h6, h7, h8, h9, h10⟩ := h
  have P : ∀ k, k ≤ 12 → SameO S S' (p + k) := fun k hk => e _ (by omega)
  have P0 : SameO S S' p := P 0 (by omega)
  have h3' := h3
  unfold dyn at h3'
  refine ⟨h1, ⟨r, by rw [P0.2.1]; exact h2, ?_, h4.agr (fun i i1 i2 => e i (by omega))⟩, ?_, ?_, ?_, h8.agr hn (P 2 (by omega)).2.2.2.2.1 (fun i i1 i2 => e i (by omega)), ?_, ?_⟩
  · rcases h3 with q | q
    · exact Or.inl q
    · exact Or.inr (q.mono hn)
  · rw [P0.1, P0.1, P0.1]; exact h5
  · rw [P0.1]; exact h6
  · rw [(P 1 (by omega)).2.2.1]; exact h7
  · intro m u hm hu
    rw [(P 3 (by omega)).2.2.1, (P 4 (by omega)).2.2.1, (P 5 (by omega)).2.2.1]
    exact h9 m u hm hu
  · refine ⟨by rw [(P 6 (by omega)).1, (P 6 (by omega)).1, (P 6 (by omega)).1]; exact h10.1, fun q hq => ?_⟩
    obtain ⟨⟨j, g1, g2, g3, g4, g5, g6⟩, g7, g8, g9⟩ := h10.2 q hq
    have g2' := g2
    obtain ⟨a, b⟩ := g2'
    have D := e j (by omega)
    have D1 := e (j + 1) (by omega)
    exact ⟨⟨j, by rw [(P 7 (by omega)).2.2.2.2.1]; exact g1, g2.mono hn, by rw [D.2.1]; exact g3, by rw [D1.2.2.2.2.2]; exact g4, by rw [D.1]; exact g5, by rw [D1.2.2.1]; exact g6⟩, by rw [(P 8 (by omega)).2.2.1]; exact g7, by rw [(P 9 (by omega)).2.2.1]; exact g8, by rw [(P 10 (by omega)).2.2.1]; exact g9⟩
theorem Cl.agr {S S' : St} {n n' p : Nat} {N B : Nat → Int32} (h : Cl S n p N B) (hn : n ≤ n') (e : ∀ i, (p ≤ i ∧ i ≤ p + 16) ∨ (1 ≤ i ∧ i ≤ 19) ∨ (197 ≤ i ∧ i < n) → SameO S S' i) : Cl S' n' p N B :=
  Cl.mk' (h.c0.agr hn (fun i hi => e i (by omega))) (h.cj.agr (fun i i1 i2 => e i (by omega))) h.dy
theorem FxF.agr {S S' : St} (h : FxF S) (e1 : ∀ f i, ¬ f = 700 → i < 197 → sr S' f i = sr S f i) (e2 : ∀ i, i < 197 → ln S' i = ln S i) (e3 : ar S' 69 = ar S 69) : FxF S' := by
  obtain ⟨h1, h2, h3, h4⟩ := h
  have n1 : ∀ q ∈ fxR, ¬ q.1 = 700 ∧ q.2.1 < 197 := by decide
  have n2 : ∀ q ∈ spR, ¬ q.1 = 700 ∧ q.2.1 ≤ 20 := by decide
  have n3 : ∀ q ∈ fxL, q.1 < 197 := by decide
  have n4 : ∀ q ∈ spL, q.1 ≤ 20 := by decide
  have n5 : ∀ p ∈ spools, p ≤ 175 := by decide
  refine ⟨fun q hq => by rw [e1 _ _ (n1 q hq).1 (n1 q hq).2]; exact h1 q hq, fun q hq => by rw [e2 _ (n3 q hq)]; exact h2 q hq, fun p hp => ⟨fun q hq => ?_, fun q hq => ?_⟩, fun i hi => by rw [e3]; exact h4 i hi⟩
  · have := n2 q hq; have := n5 p hp
    rw [e1 _ _ (n2 q hq).1 (by omega)]; exact (h3 p hp).1 q hq
  · have := n4 q hq; have := n5 p hp
    rw [e2 _ (by omega)]; exact (h3 p hp).2 q hq
