/-! a reference ends: the class's way -/
section Ee
variable {F : Nat} {S : St} {n p m u : Nat} {N B : Nat → Int32} {s : Int32}
theorem kept_stS {m' : Nat} (h : ¬ m' = m) (hu : u < 10) (b4 : kN N 4 ≤ 10) : keptN (stS N m u s) m' ↔ keptN N m' := by
  have k4 : kN (stS N m u s) 4 = kN N 4 := by unfold kN; rw [stS_n (by omega)]
  unfold keptN
  rw [k4]
  constructor
  · rintro ⟨u', x1, x2⟩
    rw [stS_st hu (by omega), if_neg (fun z => h z.1)] at x2
    exact ⟨u', x1, x2⟩
  · rintro ⟨u', x1, x2⟩
    refine ⟨u', x1, ?_⟩
    rw [stS_st hu (by omega), if_neg (fun z => h z.1)]
    exact x2
theorem e_end57 (g : Cl S n p N B) (hp : 27 ≤ p ∧ p + 20 < 212) (hs : SpF S p) (hm : m < kN N 7) (hu : u < kN N 4) (h0 : 0 ≤ stN N m u ∧ stN N m u ≤ 2) (hs3 : s = 1 ∨ s = 2 ∨ s = 3) (v4 : Int32) (hv : v4 = 0 ∨ s = 1 ∨ s = 2) (a : Int32) (hF : 1000 ≤ F) :
    ∃ T, f_X8_endReference_L57 F (uai S (p + 3) (10 * m + u) s) p (nI m) v4 a (N 2) (p + 13) = some T ∧ Cl T n p (seN lgN N m u s a) B ∧ (∀ i, ¬ i = p + 3 → ¬ i = p + 6 → ¬ i = p + 9 → ¬ i = p + 10 → ¬ (p + 13 ≤ i ∧ i ≤ p + 16) → SameO S T i) ∧ (∀ f i, sr T f i = sr S f i) ∧ ln T = ln S := by
  have C := g.c0
  have w := C.wb
  have b4 := w.n4.2
  have b7 := w.n7.2
  have b8 := w.n8.2
  obtain ⟨S1, hS1⟩ : ∃ S1, S1 = uai S (p + 3) (10 * m + u) s := ⟨_, rfl⟩
  obtain ⟨N1, hN1⟩ : ∃ N1, N1 = stS N m u s := ⟨_, rfl⟩
  have O1 : ∀ i, ¬ i = p + 3 → SameO S S1 i := fun i h => by rw [hS1]; exact SameO.uai _ h
  have hs1 : SpF S1 p := hs.frm (fun f i => by rw [hS1]; rfl) (by rw [hS1]; rfl)
  have w1 : WB N1 B := by rw [hN1]; exact w.st hm hu hs3
  have n1 : ∀ k, ¬ k = 1171 + 3 * (10 * m + u) → N1 k = N k := fun k h => by rw [hN1]; exact stS_n h
  have n12 : N1 2 = N 2 := n1 2 (by omega)
  have cj1 : CJ S1 p N1 := (g.cj.agr (fun i i1 i2 => O1 i (by omega))).x (n1 9 (by omega)) (fun k _ _ => n1 k (by omega)) w.n9.2
  obtain ⟨T1, t1, t2, t3, t4, t5⟩ := e_note (F := F) hs1 cj1 w1.n9 a (nI m)
  rw [n12] at t1
  obtain ⟨N2, hN2⟩ : ∃ N2, N2 = lgN N1 a (nI m) := ⟨_, rfl⟩
  rw [← hN2] at t2
  have w2 : WB N2 B := by rw [hN2]; exact WB.lg isLg_lg w1 _ _
  have n2 : ∀ k, k < 6211 → ¬ k = 9 → N2 k = N1 k := fun k h h9 => by rw [hN2]; exact lgN_lo h h9
  have n2N : ∀ k, k < 6211 → ¬ k = 9 → ¬ k = 1171 + 3 * (10 * m + u) → N2 k = N k := fun k h h9 h1 => (n2 k h h9).trans (n1 k h1)
  have k2N : ∀ k, k < 6211 → ¬ k = 9 → ¬ k = 1171 + 3 * (10 * m + u) → kN N2 k = kN N k := fun k h h9 h1 => by unfold kN; rw [n2N k h h9 h1]
  have E2 : EqX (fun k => k = 1171 + 3 * (10 * m + u)) N N2 := fun k a b c => n2N k a b c
  have E12 : EqX (fun _ => False) N1 N2 := fun k a b _ => n2 k a b
  have O2 : ∀ i, ¬ i = p + 3 → ¬ (p + 13 ≤ i ∧ i ≤ p + 16) → SameO S T1 i := fun i h h1 => (O1 i h).tr (t3 i (by omega) (by omega) (by omega) (by omega))
  have r1 : ∀ f i, sr T1 f i = sr S f i := fun f i => by rw [t4, hS1]; rfl
  have l1 : ln T1 = ln S := by rw [t5, hS1]; rfl
  have hs2 : SpF T1 p := hs.frm r1 l1
  have k7 : kN N2 7 = kN N 7 := k2N 7 (by omega) (by omega) (by omega)
  have k8 : kN N2 8 = kN N 8 := k2N 8 (by omega) (by omega) (by omega)
  have k4 : kN N2 4 = kN N 4 := k2N 4 (by omega) (by omega) (by omega)
  have k17 : kN N1 7 = kN N 7 := by unfold kN; rw [n1 7 (by omega)]
  have row3 : ∀ k, ai T1 (p + 3) k = if k = 10 * m + u then s else ai S (p + 3) k := fun k => by
    rw [(t3 (p + 3) (by omega) (by omega) (by omega) (by omega)).row, hS1, ai_uai]
    by_cases z : k = 10 * m + u
    · rw [if_pos ⟨rfl, z⟩, if_pos z]
    · rw [if_neg (fun y => z y.2), if_neg z]
  have m4 : ∀ m', m' < kN N 7 → manyN N m' ≤ 4 := fun m' h => (w.wM m' h).2.2.2.1.2
  have has2 : ∀ m' q, m' < kN N 7 → (hasN N2 m' q ↔ hasN N m' q) := fun m' q h => E2.has (fun k z => by omega) (by omega) (m4 m' h)
  have has1 : ∀ m' q, m' < kN N 7 → (hasN N1 m' q ↔ hasN N m' q) := fun m' q h => by
    have : EqX (fun k => k = 1171 + 3 * (10 * m + u)) N N1 := fun k _ _ c => n1 k c
    exact this.has (fun k z => by omega) (by omega) (m4 m' h)
  have kept2 : ∀ m', m' < kN N 7 → (keptN N2 m' ↔ keptN N1 m') := fun m' h => E12.kept (fun k z => z.elim) (by omega) (by unfold kN; rw [n1 4 (by omega)]; exact b4)
  have kept1 : ∀ m', ¬ m' = m → (keptN N1 m' ↔ keptN N m') := fun m' h => by rw [hN1]; exact kept_stS h (by omega) b4
  have keptm : keptN N m := ⟨u, hu, h0⟩
  have V : Vw T1 n p N2 B := by
    obtain ⟨r, q1, q2, q3⟩ := C.ru
    have q2' := q2
    unfold dyn at q2'
    refine ⟨w2, ⟨r, by rw [r1]; exact q1, q2, (E2.cr (fun k z => by omega) w q3).agr (fun i i1 i2 => O2 i (by omega) (by omega))⟩, by rw [(O2 p (by omega) (by omega)).1, n2N 7 (by omega) (by omega) (by omega)]; exact C.s705.trans w.n7.1.symm, fun m' u' hm' hu' => ⟨?_, True.intro⟩⟩
    rw [k7] at hm'
    have e0 : stN N2 m' u' = stN N1 m' u' := n2 _ (by omega) (by omega)
    rw [row3, e0, hN1, stS_st (by omega) hu']
    by_cases z : m' = m ∧ u' = u
    · rw [if_pos (by rw [z.1, z.2]), if_pos z]
    · rw [if_neg (by omega), if_neg z]
      exact (C.cf m' u' hm' hu').1
  have K := v_keeps (F := F) V hs2 (m := m) (by omega) hF
  have c0le := cntP_le (fun q => isN N q = 1 ∧ ¬ deN N q = -1) (kN N 8)
  have s802 := C.cp.1.2.2
  have e12 : ∀ k, k < 6211 → ¬ k = 9 → ¬ xD k → N2 k = stS N m u s k := fun k a b _ => by rw [n2 k a b, hN1]
  have run : f_X8_endReference_L57 F S1 p (nI m) v4 a (N 2) (p + 13) = if ¬ v4 = 0 then some T1 else pif (keptN N1 m) (some T1) (Option.bind (f_X8_messageAt F T1 p (nI m)) fun z11 => lt z11.1 fun r13 => lt z11.2 fun S12 => Option.bind r13 fun j15 => Option.bind (f_X8_dropParts F S12 p j15) fun S17 => some S17) := by
    unfold f_X8_endReference_L57
    rw [t1, ob_some, K, ob_some]
    simp only [lt_eq, pI_n0]
    rw [pif_c (kept2 m hm)]
  rw [← hS1, run]
  unfold seN
  rw [← hN1, ← hN2]
  by_cases kk : keptN N1 m
  · refine ⟨T1, ?_, ?_, fun i h3 _ _ _ h13 => O2 i h3 h13, r1, l1⟩
    · rw [pif_t kk]
      by_cases z : v4 = 0
      · rw [if_neg (fun y => y z)]
      · rw [if_pos z]
    · rw [pif_t kk]
      have kept' : ∀ m', m' < kN N 7 → (keptN N2 m' ↔ keptN N m') := fun m' h => by
        by_cases z : m' = m
        · subst z
          exact ⟨fun _ => keptm, fun _ => (kept2 _ h).mpr kk⟩
        · exact (kept2 m' h).trans (kept1 m' z)
      have P6 := O2 (p + 6) (by omega) (by omega)
      refine g.se (P := fun _ => False) hp hm hu w2 t2 e12 (fun q hq => by rw [pif_f (fun z => z)]; exact n2N _ (by omega) (by omega) (by omega)) (fun q z => z.elim) (fun q hq => ?_) (fun i h3 _ _ _ h13 => O2 i h3 h13) row3 ⟨P6.1 800, P6.1 801, s802, by rw [P6.1, s802, cntP_z.mpr (fun k _ z => z)]; rfl⟩ (by omega) (fun q hq => ?_) (fun q hq => ?_)
      · rw [C.wf.link hq]
        exact ⟨fun ⟨m', x1, x2, x3⟩ => ⟨⟨m', x1, x2, (kept' m' x1).mp x3⟩, fun z => z⟩, fun ⟨⟨m', x1, x2, x3⟩, _⟩ => ⟨m', x1, x2, (kept' m' x1).mpr x3⟩⟩
      · rw [(O2 (p + 9) (by omega) (by omega)).row, (C.cp.2 q hq).2.2.1]
        exact congrArg nI (cntP_c (fun m' h => by rw [kept' m' h]))
      · rw [pif_f (fun z => z), (O2 (p + 10) (by omega) (by omega)).row]
  · have v0 : v4 = 0 := by
      rcases hv with h | h
      · exact h
      · refine absurd ⟨u, by unfold kN; rw [n1 4 (by omega)]; exact hu, ?_⟩ kk
        rw [hN1, stS_st (by omega) (by omega), if_pos ⟨rfl, rfl⟩]
        rcases h with rfl | rfl <;> decide
    obtain ⟨j, j1, j2, j3, j4, -, -, -, j8, -⟩ := C.cm m hm
    have j2' := j2
    unfold dyn at j2'
    have Pj := O2 j (by omega) (by omega)
    have Pj1 := O2 (j + 1) (by omega) (by omega)
    have msg : f_X8_messageAt F T1 p (nI m) = some (some j, T1) := by
      have s705 : si T1 705 p = nI (kN N 7) := by rw [(O2 p (by omega) (by omega)).1]; exact C.s705
      have a2 : ar T1 (p + 2) m = some j := by rw [(O2 (p + 2) (by omega) (by omega)).2.2.2.2.1]; exact j1
      unfold f_X8_messageAt f_X8_messageAt_L26
      rw [if_neg (nI_pos (by omega)), s705, if_neg (nI_ge hm (by omega)), hs2.r706_0, ob_some, hs2.l2, if_neg (nI_ge (by omega) (by omega)), if_neg (by decide), ob_some, hs2.l2, cki_nI (by omega) (by omega), nI_clamp (by omega), a2, os_s]
      rfl
    have many2 : manyN N2 m = manyN N m := E2.many (fun k z => by omega) (by omega)
    have die : ∀ q, dieP N1 m q ↔ hasN N m q ∧ ¬ ∃ m', m' < kN N 7 ∧ hasN N m' q ∧ keptN N1 m' := fun q => by
      unfold dieP
      rw [k17, has1 m q hm]
      exact and_congr_right (fun _ => not_congr ⟨fun ⟨m', x1, x2, x3⟩ => ⟨m', x1, (has1 m' q x1).mp x2, x3⟩, fun ⟨m', x1, x2, x3⟩ => ⟨m', x1, (has1 m' q x1).mpr x2, x3⟩⟩)
    have h8 : ∀ q, hasN N m q → q < kN N 8 := fun q ⟨i, i1, i2⟩ => by rw [← i2]; exact ((w.wM m hm).2.2.2.2.2 i i1).2
    have cnt : ∀ q, hasN N m q → cntP (fun m' => hasN N m' q ∧ keptN N m') (kN N 7) = cntP (fun m' => hasN N m' q ∧ keptN N1 m') (kN N 7) + 1 := fun q hq => cntP_del hm ⟨hq, keptm⟩ (fun z => kk z.2) (fun m' _ ne => by rw [kept1 m' ne])
    have row9 : ∀ q, q < kN N 8 → ai T1 (p + 9) q = nI (cntP (fun m' => hasN N m' q ∧ keptN N m') (kN N 7)) := fun q hq => by rw [(O2 (p + 9) (by omega) (by omega)).row, (C.cp.2 q hq).2.2.1]
    have P6 := O2 (p + 6) (by omega) (by omega)
    obtain ⟨T, d1, d2⟩ := e_dropParts (F := F) (T0 := T1) (p := p) (m := m) (j := j) (c0 := cntP (fun q => isN N q = 1 ∧ ¬ deN N q = -1) (kN N 8)) (N := N2) (B := B) (P := dieP N1 m) hs2 w2 (by rw [(O2 p (by omega) (by omega)).1, n2N 2 (by omega) (by omega) (by omega)]; exact C.s701) (by omega) (by rw [r1]; exact j3) (by rw [l1, many2]; exact j4) (by omega)
      (fun i hi => by
        rw [many2] at hi
        have := m4 m hm
        rw [Pj1.row, j8 i hi, n2N _ (by omega) (by omega) (by omega)])
      (fun q hq => by
        have hq' := (has2 m q hm).mp hq
        have := cntP_le (fun m' => hasN N m' q ∧ keptN N1 m') (kN N 7)
        refine ⟨_, by omega, (row9 q (h8 q hq')).trans (congrArg nI (cnt q hq')), ?_⟩
        rw [die, cntP_z]
        exact ⟨fun z k hk y => z.2 ⟨k, hk, y.1, y.2⟩, fun z => ⟨hq', fun ⟨m', x1, x2, x3⟩ => z m' x1 ⟨x2, x3⟩⟩⟩)
      (fun q z => (has2 m q hm).mpr ((die q).mp z).1) (by omega) (by rw [P6.1]; exact s802) t2 hF
    obtain ⟨D1, D2, D3, D4, D5, D6, D7⟩ := d2
    rw [k8] at D4 D5 D6 D7
    obtain ⟨q1, q2, -, q4⟩ := buryN_de (L := lgN) (P := dieP N1 m) (N := N2) (B := B) isLg_lg (kN N 8) (by omega)
    refine ⟨T, ?_, ?_, fun i a b c d e => (O2 i a e).tr (D1 i b c d e), fun f i => (D2 f i).trans (r1 f i), D3.trans l1⟩
    · rw [if_neg (fun y => y v0), pif_f kk, msg, ob_some]
      simp only [lt_eq]
      rw [ob_some, d1, ob_some]
    · rw [pif_f kk]
      have keptM : ∀ m', m' < kN N 7 → (keptN (buryN lgN (dieP N1 m) (kN N 8) N2) m' ↔ keptN N1 m') := fun m' h => by
        have : EqX xD N2 (buryN lgN (dieP N1 m) (kN N 8) N2) := fun k a b c => q1 k a b c
        exact (this.kept (fun k z => by unfold xD at z; omega) (by omega) (by rw [k4]; exact b4)).trans (kept2 m' h)
      refine g.se (P := dieP N1 m) hp hm hu (q4 w2) D7 (fun k a b c => (q1 k a b c).trans (e12 k a b c)) (fun q hq => ?_) (fun q z => ?_) (fun q hq => ?_) (fun i a b c d e => (O2 i a e).tr (D1 i b c d e)) (fun k => by rw [(D1 (p + 3) (by omega) (by omega) (by omega) (by omega)).row]; exact row3 k) ⟨D4.1.trans (P6.1 800), D4.2.1.trans (P6.1 801), s802, D4.2.2⟩ (by omega) (fun q hq => ?_) (fun q hq => ?_)
      · have e2 : deN N2 q = deN N q := n2N _ (by omega) (by omega) (by omega)
        rw [q2 q hq, n2N 2 (by omega) (by omega) (by omega), e2]
        exact pif_c ⟨fun z => z.1, fun z => ⟨z, h8 q ((die q).mp z).1⟩⟩
      · have hq := ((die q).mp z).1
        have de : deN N q = -1 := (C.wf.link (h8 q hq)).mpr ⟨m, hm, hq, keptm⟩
        exact ⟨h8 q hq, C.wf.isd (h8 q hq) de, de⟩
      · rw [C.wf.link hq, die]
        constructor
        · rintro ⟨m', x1, x2, x3⟩
          have x4 := (keptM m' x1).mp x3
          have ne : ¬ m' = m := fun z => kk (by rw [← z]; exact x4)
          exact ⟨⟨m', x1, x2, (kept1 m' ne).mp x4⟩, fun z => z.2 ⟨m', x1, x2, x4⟩⟩
        · rintro ⟨⟨m', x1, x2, x3⟩, y⟩
          by_cases z : m' = m
          · subst z
            obtain ⟨m2, y1, y2, y3⟩ := Classical.not_not.mp (fun g => y ⟨x2, g⟩)
            exact ⟨m2, y1, y2, (keptM m2 y1).mpr y3⟩
          · exact ⟨m', x1, x2, (keptM m' x1).mpr ((kept1 m' z).mpr x3)⟩
      · have e9 : cntP (fun m' => hasN N m' q ∧ keptN (buryN lgN (dieP N1 m) (kN N 8) N2) m') (kN N 7) = cntP (fun m' => hasN N m' q ∧ keptN N1 m') (kN N 7) := cntP_c (fun m' h => by rw [keptM m' h])
        rw [D5 q (by omega), e9, row9 q hq]
        by_cases z : hasN N m q
        · rw [pif_t ⟨(has2 m q hm).mpr z, hq⟩, cnt q z, show (1 : Int32) = nI 1 from rfl, nI_sub (by omega)]
          rfl
        · rw [pif_f (fun y => z ((has2 m q hm).mp y.1))]
          refine congrArg nI (cntP_c (fun m' _ => ?_))
          by_cases y : m' = m
          · subst y
            exact ⟨fun x => absurd x.1 z, fun x => absurd x.1 z⟩
          · rw [kept1 m' y]
      · rw [D6 q (by omega), (O2 (p + 10) (by omega) (by omega)).row, n2N 2 (by omega) (by omega) (by omega)]
        exact pif_c ⟨fun z => z.1, fun z => ⟨z, hq⟩⟩
end Ee
