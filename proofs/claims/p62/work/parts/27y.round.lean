section Nt
variable {F : Nat} {S : St} {n p : Nat} {N B : Nat → Int32}
theorem Cl.note (g : Cl S n p N B) (hp : 27 ≤ p ∧ p + 20 < 197) (hs : SpF S p) (a b : Int32) : ∃ T, f_X2_note F S (p + 13) (N 2) a b = some T ∧ Cl T n p (lgN N a b) B ∧ (∀ i, ¬ (p + 13 ≤ i ∧ i ≤ p + 16) → SameO S T i) ∧ (∀ f i, sr T f i = sr S f i) ∧ ln T = ln S := by
  have C := g.c0
  have w := C.wb
  have b4 := w.n4.2
  have b7 := w.n7.2
  have b8 := w.n8.2
  obtain ⟨T, t1, t2, t3, t4, t5⟩ := e_note (F := F) hs g.cj w.n9 a b
  have O : ∀ i, ¬ (p + 13 ≤ i ∧ i ≤ p + 16) → SameO S T i := fun i h => t3 i (by omega) (by omega) (by omega) (by omega)
  have w2 : WB (lgN N a b) B := WB.lg isLg_lg w a b
  have U : ∀ k, k < 6211 → ¬ k = 9 → lgN N a b k = N k := fun k h h9 => lgN_lo h h9
  have hE : EqX (fun _ => False) N (lgN N a b) := fun k h h9 _ => U k h h9
  have hX : okX (fun _ => False) := fun k z => z.elim
  have kept : ∀ m, m < kN N 7 → (keptN (lgN N a b) m ↔ keptN N m) := fun m h => hE.kept (fun k z => z.elim) (by omega) b4
  have is : ∀ q, q < 480 → isN (lgN N a b) q = isN N q := fun q h => hE.is (fun k z => z.elim) h
  have de : ∀ q, q < 480 → deN (lgN N a b) q = deN N q := fun q h => hE.de (fun k z => z.elim) h
  refine ⟨T, t1, Cl.mk' (Cl0.x hE hX w2.n9 C (fun i hi => O i (by omega)) ((O p (by omega)).2.1 700) ⟨(O p (by omega)).1 701, (O p (by omega)).1 702, (O p (by omega)).1 705⟩ w2.wU w2.wH w2.wR w2.wP ?_ ?_ ?_ ?_ ?_ ?_) t2 (by unfold kN; rw [U 2 (by omega) (by omega)]; exact g.dy), O, t4, t5⟩
  · intro q hq
    rw [de q (by omega), is q (by omega), C.wf.link hq]
    refine ⟨⟨fun ⟨m, x1, x2, x3⟩ => ⟨m, x1, x2, (kept m x1).mpr x3⟩, fun ⟨m, x1, x2, x3⟩ => ⟨m, x1, x2, (kept m x1).mp x3⟩⟩, fun y => C.wf.isd hq ((C.wf.link hq).mpr y)⟩
  · obtain ⟨act, a1, a2, a3⟩ := C.ac
    refine ⟨act, ((O p (by omega)).1 703).trans a1, a2, fun x hx => ?_⟩
    rw [U (208 + 21 * x) (by omega) (by omega)]
    exact a3 x hx
  · intro c hc
    rw [(O (p + 1) (by omega)).row, U _ (by omega) (by omega)]
    exact C.qu c hc
  · intro m x hm hx
    rw [(O (p + 3) (by omega)).row, (O (p + 4) (by omega)).row, (O (p + 5) (by omega)).row, hE.st (fun k z => z.elim) (by omega) hx, hE.en (fun k z => z.elim) (by omega) hx, hE.cl (fun k z => z.elim) (by omega) hx]
    exact C.cf m x hm hx
  · have P6 := O (p + 6) (by omega)
    rw [P6.1, P6.1, P6.1]
    refine ⟨rfl, ?_⟩
    rw [cntP_c (P := fun q => isN (lgN N a b) q = 1) (Q := fun q => isN N q = 1) (fun k hk => by rw [is k (by omega)]), cntP_c (P := fun q => isN (lgN N a b) q = 1 ∧ ¬ deN (lgN N a b) q = -1) (Q := fun q => isN N q = 1 ∧ ¬ deN N q = -1) (fun k hk => by rw [is k (by omega), de k (by omega)])]
    exact C.cp.1.2
  · intro q hq
    have cc := C.cp.2 q hq
    rw [(O (p + 9) (by omega)).row, (O (p + 10) (by omega)).row, is q (by omega), de q (by omega), cntP_c (P := fun m => hasN N m q ∧ keptN (lgN N a b) m) (Q := fun m => hasN N m q ∧ keptN N m) (fun k hk => by rw [kept k hk])]
    exact ⟨cc.2.2.1, cc.2.2.2⟩
/-- a dead part that is no longer there -/
theorem Cl.rem {q : Nat} (g : Cl S n p N B) (hp : 27 ≤ p ∧ p + 20 < 197) (hq : q < kN N 8) (hi : isN N q = 1) (hd : ¬ deN N q = -1) : Cl (ui (ui (uai S (p + 10) q (-2)) 801 (p + 6) (si S 801 (p + 6) - 1)) 802 (p + 6) (si S 802 (p + 6) - 1)) n p (upd N (4772 + 3 * q) 0) B := by
  have C := g.c0
  have w := C.wb
  have b4 := w.n4.2
  have b6 := w.n6.2
  have b7 := w.n7.2
  have b8 := w.n8.2
  have n9 := w.n9
  obtain ⟨M, hM⟩ : ∃ M, M = upd N (4772 + 3 * q) 0 := ⟨_, rfl⟩
  obtain ⟨T, hT⟩ : ∃ T, T = ui (ui (uai S (p + 10) q (-2)) 801 (p + 6) (si S 801 (p + 6) - 1)) 802 (p + 6) (si S 802 (p + 6) - 1) := ⟨_, rfl⟩
  rw [← hM, ← hT]
  have O : ∀ i, ¬ i = p + 6 → ¬ i = p + 10 → SameO S T i := fun i a b => by rw [hT]; exact ((SameO.uai _ b).tr (SameO.ui _ a)).tr (SameO.ui _ a)
  have U : ∀ k, ¬ k = 4772 + 3 * q → M k = N k := fun k h => by rw [hM]; exact upd_n h
  have Ue : isN M q = 0 := by rw [hM]; exact upd_e _ _ _
  have hE : EqX (fun k => k = 4772 + 3 * q) N M := fun k _ _ h => U k h
  have hX : okX (fun k => k = 4772 + 3 * q) := fun k z => by omega
  have hK : ∀ k, ¬ k = 4772 + 3 * q → kN M k = kN N k := fun k h => by unfold kN; rw [U k h]
  have h9 : isCnt M 9 60 := by unfold isCnt; rw [hK 9 (by omega), U 9 (by omega)]; exact n9
  have is : ∀ k, ¬ k = q → isN M k = isN N k := fun k h => U _ (by omega)
  have de : ∀ k, deN M k = deN N k := fun k => U _ (by omega)
  have kept : ∀ m, m < kN N 7 → (keptN M m ↔ keptN N m) := fun m h => hE.kept (fun k z => by omega) (by omega) b4
  refine Cl.mk' (Cl0.x hE hX h9 C (fun i hi => O i (by omega) (by omega)) ((O p (by omega) (by omega)).2.1 700) ⟨(O p (by omega) (by omega)).1 701, (O p (by omega) (by omega)).1 702, (O p (by omega) (by omega)).1 705⟩ (hE.wU (fun k z => by omega) b4 w.wU) (hE.wH (fun k z => by omega) b6 w.wH) (hE.wR (fun k z => by omega) b7 w.wR) ?_ ?_ ?_ ?_ ?_ ?_ ?_) ((g.cj.agr (fun i i1 i2 => O i (by omega) (by omega))).x (U 9 (by omega)) (fun k _ _ => U k (by omega)) n9.2) (by rw [hK 2 (by omega)]; exact g.dy)
  · intro x hx
    rw [hK 8 (by omega)] at hx
    obtain ⟨q1, q2, q3, q4, q5⟩ := w.wP x hx
    refine ⟨hE.cnt (by omega) (by omega) (by omega) q1, by rw [hK _ (by omega)]; exact q2, ?_, ?_, fun k hk => ?_⟩
    · by_cases z : x = q
      · rw [z]; exact Or.inl Ue
      · rw [is x z]; exact q3
    · rw [de x, hK (4773 + 3 * x) (by omega), hK 2 (by omega)]
      exact q4.imp id (fun y => ⟨hE.cnt (by omega) (by omega) (by omega) y.1, y.2⟩)
    · rw [hK _ (by omega)] at hk; exact q5 k hk
  · intro x hx
    rw [de x]
    refine ⟨(C.wf.link hx).trans ⟨fun ⟨m, x1, x2, x3⟩ => ⟨m, x1, x2, (kept m x1).mpr x3⟩, fun ⟨m, x1, x2, x3⟩ => ⟨m, x1, x2, (kept m x1).mp x3⟩⟩, fun y => ?_⟩
    have ne : ¬ x = q := fun z => hd (by rw [← z]; exact y)
    rw [is x ne]
    exact C.wf.isd hx y
  · obtain ⟨act, a1, a2, a3⟩ := C.ac
    refine ⟨act, ((O p (by omega) (by omega)).1 703).trans a1, a2, fun x hx => ?_⟩
    rw [U (208 + 21 * x) (by omega)]
    exact a3 x hx
  · intro c hc
    rw [(O (p + 1) (by omega) (by omega)).row, U _ (by omega)]
    exact C.qu c hc
  · intro m x hm hx
    rw [(O (p + 3) (by omega) (by omega)).row, (O (p + 4) (by omega) (by omega)).row, (O (p + 5) (by omega) (by omega)).row, hE.st (fun k z => by omega) (by omega) hx, hE.en (fun k z => by omega) (by omega) hx, hE.cl (fun k z => by omega) (by omega) hx]
    exact C.cf m x hm hx
  · have c1 : cntP (fun k => isN N k = 1) (kN N 8) = cntP (fun k => isN M k = 1) (kN N 8) + 1 := cntP_del hq hi (fun z => by rw [Ue] at z; exact absurd z (by decide)) (fun k _ ne => by rw [is k ne])
    have c2 : cntP (fun k => isN N k = 1 ∧ ¬ deN N k = -1) (kN N 8) = cntP (fun k => isN M k = 1 ∧ ¬ deN M k = -1) (kN N 8) + 1 := cntP_del hq ⟨hi, hd⟩ (fun z => by rw [Ue] at z; exact absurd z.1 (by decide)) (fun k _ ne => by rw [is k ne, de k])
    obtain ⟨s0, s1, s2⟩ := C.cp.1
    rw [hT, si_ui, if_neg (by omega), si_ui, if_neg (by omega), si_ui, if_neg (by omega), si_ui, if_pos ⟨rfl, rfl⟩, si_ui, if_pos ⟨rfl, rfl⟩, s1, s2, c1, c2, show (1 : Int32) = nI 1 from rfl, nI_sub (by omega), nI_sub (by omega)]
    exact ⟨rfl, rfl, rfl⟩
  · intro x hx
    have cc := C.cp.2 x hx
    rw [(O (p + 9) (by omega) (by omega)).row, cntP_c (P := fun m => hasN N m x ∧ keptN M m) (Q := fun m => hasN N m x ∧ keptN N m) (fun k hk => by rw [kept k hk])]
    refine ⟨cc.2.2.1, ?_⟩
    rw [hT, ai_ui, ai_ui, ai_uai]
    by_cases z : x = q
    · rw [if_pos ⟨rfl, z⟩, z, Ue, if_neg (by decide)]
    · rw [if_neg (fun y => z y.2), is x z, de x]
      exact cc.2.2.2
end Nt
