/-! a call that only asks keeps the relation -/
theorem nA {i : Nat} (h : i < 25 ∨ (27 ≤ i ∧ i < 48) ∨ (69 ≤ i ∧ i < 196) ∨ 212 ≤ i ∨ (197 ≤ i ∧ i ≤ 198) ∨ (200 ≤ i ∧ i ≤ 201) ∨ (207 ≤ i ∧ i ≤ 209)) : i ∉ wkA := by
  simp only [wkA, List.mem_cons, List.not_mem_nil, or_false]
  omega
theorem nF {f i : Nat} (h : i < 24 ∨ (27 < i ∧ i < 48) ∨ (70 ≤ i ∧ i < 196) ∨ 212 ≤ i ∨ (i = 27 ∧ ¬ f = 713) ∨ (i = 197 ∧ (f = 1005 ∨ f = 1007 ∨ f = 1013 ∨ f = 1014 ∨ f = 1026 ∨ f = 1027 ∨ f = 1029))) : ¬ wkP f i := by
  simp only [wkP, wkF, List.mem_cons, List.not_mem_nil, or_false, Prod.mk.injEq]
  omega
theorem ruR_le : ∀ q ∈ ruR, q.2.1 ≤ 18 := by decide
theorem spR_le : ∀ q ∈ spR, q.2.1 ≤ 20 := by decide
theorem CR.eqv {S S' : St} {r n : Nat} {N : Nat → Int32} (h : CR S r N) (e : Eqv S S') (hr : r = 1 ∨ dyn n r 19) : CR S' r N := by
  unfold dyn at hr
  have A : ∀ k, k ≤ 18 → ai S' (r + k) = ai S (r + k) := fun k hk => e.2.2.1 _ (nA (by omega))
  have L : ∀ k, k ≤ 18 → al S' (r + k) = al S (r + k) := fun k hk => e.2.2.2.1 _ (nA (by omega))
  have I : ∀ f k, k ≤ 18 → si S' f (r + k) = si S f (r + k) := fun f k hk => e.2.1 _ _ (nF (by omega))
  have I0 : ∀ f, si S' f r = si S f r := fun f => I f 0 (by omega)
  obtain ⟨h1, h2, h3, h4, h5, h6⟩ := h
  refine ⟨⟨fun q hq => ?_, fun q hq => ?_⟩, ?_, ?_, ?_, ?_, ?_⟩
  · have := ruR_le q hq
    rw [e.1 _ _ (by omega)]
    exact h1.1 q hq
  · rw [e.2.2.2.2.2]
    exact h1.2 q hq
  · simp only [I0, I _ 1 (by omega), I _ 6 (by omega), I _ 10 (by omega), I _ 13 (by omega)]
    exact h2
  · simp only [A 3 (by omega), A 4 (by omega), A 5 (by omega), L 2 (by omega)]
    exact h3
  · simp only [A 8 (by omega), L 7 (by omega)]
    exact h4
  · simp only [A 12 (by omega), L 11 (by omega)]
    exact h5
  · simp only [A 15 (by omega), A 16 (by omega), A 17 (by omega), L 18 (by omega), L 14 (by omega)]
    exact h6
theorem Cl.eqv {S S' : St} {n p : Nat} {N B : Nat → Int32} (h : Cl S n p N B) (e : Eqv S S') (hp : p = 27 ∨ (70 ≤ p ∧ p ≤ 175)) : Cl S' n p N B := by
  have A : ∀ k, k ≤ 20 → ai S' (p + k) = ai S (p + k) := fun k hk => e.2.2.1 _ (nA (by omega))
  have R : ∀ k, k ≤ 20 → ar S' (p + k) = ar S (p + k) := fun k hk => e.2.2.2.2.1 _ (nA (by omega))
  have I : ∀ f k, k ≤ 20 → ¬ f = 713 → si S' f (p + k) = si S f (p + k) := fun f k hk hf => e.2.1 _ _ (nF (by omega))
  have I0 : ∀ f, ¬ f = 713 → si S' f p = si S f p := fun f hf => I f 0 (by omega) hf
  have D : ∀ j f, 212 ≤ j → si S' f j = si S f j ∧ sr S' f j = sr S f j ∧ ai S' j = ai S j := fun j f hj => ⟨e.2.1 _ _ (nF (by omega)), e.1 _ _ (by omega), e.2.2.1 _ (nA (by omega))⟩
  obtain ⟨h1, ⟨r, h2, h3, h4⟩, h5, h6, h7, h8, h9, h10, h11, h12⟩ := h
  refine ⟨h1, ⟨r, ?_, h3, h4.eqv e h3⟩, ?_, ?_, ?_, ?_, ?_, ?_, ?_, h12⟩
  · rw [e.1 _ _ (by omega)]; exact h2
  · rw [I0 701 (by decide), I0 702 (by decide), I0 705 (by decide)]; exact h5
  · rw [I0 703 (by decide)]; exact h6
  · rw [A 1 (by omega)]; exact h7
  · intro m hm
    obtain ⟨j, g1, g2, g3, g4, g5, g6, g7, g8, g9⟩ := h8 m hm
    have hj : 212 ≤ j := g2.1
    refine ⟨j, by rw [R 2 (by omega)]; exact g1, g2, by rw [(D j 303 hj).2.1]; exact g3, by rw [e.2.2.2.2.2]; exact g4, by rw [(D j 300 hj).1]; exact g5, by rw [(D j 301 hj).1]; exact g6, by rw [(D j 302 hj).1]; exact g7, by rw [(D (j + 1) 0 (by omega)).2.2]; exact g8, by rw [(D j 304 hj).1]; exact g9⟩
  · intro m u hm hu
    rw [A 3 (by omega), A 4 (by omega), A 5 (by omega)]
    exact h9 m u hm hu
  · refine ⟨by rw [I 800 6 (by omega) (by decide), I 801 6 (by omega) (by decide), I 802 6 (by omega) (by decide)]; exact h10.1, fun q hq => ?_⟩
    obtain ⟨⟨j, g1, g2, g3, g4, g5, g6⟩, g7, g8, g9⟩ := h10.2 q hq
    have hj : 212 ≤ j := g2.1
    refine ⟨⟨j, by rw [R 7 (by omega)]; exact g1, g2, by rw [(D j 0 hj).2.1]; exact g3, by rw [e.2.2.2.2.2]; exact g4, by rw [(D j 1 hj).1]; exact g5, by rw [(D (j + 1) 0 (by omega)).2.2]; exact g6⟩, by rw [A 8 (by omega)]; exact g7, by rw [A 9 (by omega)]; exact g8, by rw [A 10 (by omega)]; exact g9⟩
  · obtain ⟨g1, f, g2, g3, g4⟩ := h11
    exact ⟨by rw [I 204 13 (by omega) (by decide)]; exact g1, f, g2, by rw [I 203 13 (by omega) (by decide)]; exact g3, by rw [A 14 (by omega), A 15 (by omega), A 16 (by omega)]; exact g4⟩
theorem FxF.eqv {S S' : St} (h : FxF S) (e : Eqv S S') : FxF S' := by
  obtain ⟨h1, h2, h3, h4⟩ := h
  have n1 : ∀ q ∈ fxR, ¬ (q.1 = 700 ∧ q.2.1 = 48) := by decide
  have n2 : ∀ q ∈ spR, ¬ q.1 = 700 := by decide
  refine ⟨fun q hq => by rw [e.1 _ _ (n1 q hq)]; exact h1 q hq, fun q hq => by rw [e.2.2.2.2.2]; exact h2 q hq, fun p hp => ⟨fun q hq => by rw [e.1 _ _ (fun z => n2 q hq z.1)]; exact (h3 p hp).1 q hq, fun q hq => by rw [e.2.2.2.2.2]; exact (h3 p hp).2 q hq⟩, fun i hi => by rw [e.2.2.2.2.1 69 (nA (by omega))]; exact h4 i hi⟩
theorem Rel.eqv {S S' : St} {n : Nat} (h : Rel S n) (e : Eqv S S') : Rel S' n := by
  obtain ⟨h1, h2, h3, ⟨k, c1, c2, c3, c4⟩, ⟨k', o1, o2, o3, o4⟩, ⟨hh, f, g1, g2, g3, g4, g5, g6, g7⟩, h7⟩ := h
  have I : ∀ f, (f = 1005 ∨ f = 1007 ∨ f = 1013 ∨ f = 1014 ∨ f = 1026 ∨ f = 1027 ∨ f = 1029) → si S' f 197 = si S f 197 := fun f hf => e.2.1 _ _ (nF (by omega))
  have J : ∀ f i, i < 24 → si S' f i = si S f i := fun f i hi => e.2.1 _ _ (nF (by omega))
  have A : ∀ i, (i = 21 ∨ i = 23 ∨ i = 198 ∨ i = 200 ∨ i = 201 ∨ i = 207 ∨ i = 208 ∨ i = 209) → ai S' i = ai S i := fun i hi => e.2.2.1 _ (nA (by omega))
  refine ⟨h1, h2.eqv e, ?_, ⟨k, c1, ?_, ?_, ?_⟩, ⟨k', o1, ?_, ?_, ?_⟩, ⟨hh, f, g1, g2, ?_, ?_, ?_, ?_, ?_⟩, ?_⟩
  · rw [I 1005 (by omega), e.1 1004 197 (by omega), J 903 0 (by omega), I 1013 (by omega), J 904 0 (by omega), I 1014 (by omega)]; exact h3
  · rw [J 1 20 (by omega)]; exact c2
  · rw [I 1007 (by omega)]; exact c3
  · rw [A 21 (by omega), A 201 (by omega)]; exact c4
  · rw [J 1 22 (by omega)]; exact o2
  · rw [I 1029 (by omega)]; exact o3
  · rw [A 23 (by omega), A 209 (by omega)]; exact o4
  · rw [J 909 0 (by omega)]; exact g3
  · rw [I 1026 (by omega)]; exact g4
  · rw [J 908 0 (by omega)]; exact g5
  · rw [I 1027 (by omega)]; exact g6
  · intro i hi
    rw [A 207 (by omega), A 208 (by omega)]
    exact (g7 i hi).eqv e (Or.inr (by omega))
  · rw [A 198 (by omega), A 200 (by omega)]
    exact h7.eqv e (Or.inl rfl)
