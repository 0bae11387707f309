/-! a reference ends: both ways -/
theorem e_endRef {F : Nat} {S : St} {n p m u : Nat} {N B : Nat → Int32} {v : Int32} (g : Cl S n p N B) (hp : 27 ≤ p ∧ p + 20 < 212) (hs : SpF S p) (hm : m < kN N 7) (hu : u < kN N 4) (h0 : 0 ≤ stN N m u ∧ stN N m u ≤ 2) (hv : v = 1 ∨ v = 2 ∨ v = 3) (hc : covN N B m u = 0 ∨ v = 1 ∨ v = 2) (hF : 1000 ≤ F) :
    ∃ T, f_X8_endReference F S p (nI m) (nI u) v = some T ∧ Cl T n p (seN lgN N m u (if covN N B m u = 0 then 3 else v) (if covN N B m u = 0 then 4 else 5)) B ∧ (∀ i, ¬ i = p + 3 → ¬ i = p + 6 → ¬ i = p + 9 → ¬ i = p + 10 → ¬ (p + 13 ≤ i ∧ i ≤ p + 16) → SameO S T i) ∧ (∀ f i, sr T f i = sr S f i) ∧ ln T = ln S := by
  have C := g.c0
  have w := C.wb
  have b4 := w.n4.2
  have b7 := w.n7.2
  have cl := cov_lt w m u
  have put : ∀ s : Int32, f_X10_put F S (p + 3) ((nI m * 10) + nI u) s = some (uai S (p + 3) (10 * m + u) s) := fun s => by
    rw [show (10 : Int32) = nI 10 from rfl, nI_mul, nI_add, show m * 10 + u = 10 * m + u by omega, e_put _ (by rw [hs.l3]; omega) (by rw [hs.l3]; omega)]
  unfold f_X8_endReference
  rw [e_covers C hs hm hF, ob_some]
  simp only [lt_eq]
  by_cases c : covN N B m u = 0
  · rw [c, if_pos (show (0 : Nat) = 0 from rfl), if_pos (show (0 : Nat) = 0 from rfl), if_pos (show nI 0 = 0 from rfl)]
    obtain ⟨T, t1, t2⟩ := e_end57 (F := F) (s := 3) g hp hs hm hu h0 (Or.inr (Or.inr rfl)) 0 (Or.inl rfl) 4 hF
    refine ⟨T, ?_, t2⟩
    unfold f_X8_endReference_L14 f_X8_endReference_L36
    rw [hs.r707_0, ob_some, if_pos rfl, put, ob_some, sr_uai, hs.r711_0, ob_some, if_pos rfl, si_uai, C.s701]
    exact t1
  · have hv2 : v = 1 ∨ v = 2 := hc.resolve_left c
    rw [if_neg (show ¬ nI (covN N B m u) = 0 from fun z => c ((nI_eq (b := 0) (by omega) (by omega)).mp z)), if_neg c, if_neg c]
    obtain ⟨T, t1, t2⟩ := e_end57 (F := F) (s := v) g hp hs hm hu h0 hv 1 (Or.inr hv2) 5 hF
    refine ⟨T, ?_, t2⟩
    unfold f_X8_endReference_L14 f_X8_endReference_L36
    rw [hs.r707_0, ob_some, if_neg (show ¬ (1 : Int32) = 0 by decide), put, ob_some, sr_uai, hs.r711_0, ob_some, if_neg (show ¬ (1 : Int32) = 0 by decide), si_uai, C.s701]
    exact t1
/-- how the model's journal is written, in thought or not -/
def isTh (L : (Nat → Int32) → Int32 → Int32 → Nat → Int32) (th : Int32) : Prop := (th = 0 ∧ L = lgN) ∨ (th = 1 ∧ L = lg0)
theorem isTh.lg {L : (Nat → Int32) → Int32 → Int32 → Nat → Int32} {th : Int32} (h : isTh L th) : isLg L := by
  rcases h with ⟨-, rfl⟩ | ⟨-, rfl⟩
  · exact isLg_lg
  · exact isLg_0
section Mo
variable {F : Nat} {S : St} {m u : Nat} {B : Nat → Int32} {L : (Nat → Int32) → Int32 → Int32 → Nat → Int32} {th : Int32}
theorem m_logL (hT : isTh L th) (hx : FxF S) (ht : si S 1005 197 = th) (w : WB (ai S 198) B) (a b : Int32) (hF : 1000 ≤ F) : ∃ T, f_X11_log F S 197 a b = some T ∧ Net S T ∧ ai T 198 = L (ai S 198) a b := by
  rcases hT with ⟨rfl, rfl⟩ | ⟨rfl, rfl⟩
  · exact m_log hx ht w.n9 a b hF
  · refine ⟨S, ?_, Net.rf S, rfl⟩
    unfold f_X11_log
    rw [ht, if_neg (by decide)]
theorem m_bury (hT : isTh L th) (hx : FxF S) (ht : si S 1005 197 = th) (w : WB (ai S 198) B) (hm : m < kN (ai S 198) 7) (hd : ∀ q, hasN (ai S 198) m q → deN (ai S 198) q = -1) (hF : 1000 ≤ F) :
    ∃ T, f_X11_buryParts F S 197 (nI m) = some T ∧ Net S T ∧ ai T 198 = pif (keptN (ai S 198) m) (ai S 198) (buryN L (dieP (ai S 198) m) (kN (ai S 198) 8) (ai S 198)) := by
  have b4 := w.n4.2
  have b7 := w.n7.2
  have b8 := w.n8.2
  obtain ⟨N, hN⟩ : ∃ N, N = ai S 198 := ⟨_, rfl⟩
  have loop : ∀ d x fu T, x + d = kN N 8 → d < fu → Net S T → ai T 198 = buryN L (dieP N m) x N → ∃ T', f_X11_buryParts_L11 F fu T 197 (nI m) (nI x) = some T' ∧ Net S T' ∧ ai T' 198 = buryN L (dieP N m) (kN N 8) N := by
    intro d
    induction d with
    | zero =>
      intro x fu T hx' hfu n1 n2
      obtain ⟨fu, rfl⟩ : ∃ f', fu = f' + 1 := ⟨fu - 1, by omega⟩
      have e : x = kN N 8 := by omega
      subst e
      have hxT := n1.mfr.fx hx
      obtain ⟨q1, -, -, -⟩ := buryN_de (L := L) (P := dieP N m) (N := N) (B := B) hT.lg (kN N 8) (by rw [hN]; omega)
      refine ⟨T, ?_, n1, n2⟩
      unfold f_X11_buryParts_L11
      rw [hxT.r1001_197, ob_some, hxT.l198, show (8 : Int32) = nI 8 from rfl, cki_nI (by omega) (by omega), nI_clamp (by omega), n2, q1 8 (by omega) (by omega) (by unfold xD; omega), hN, w.n8.1, if_pos (nI_le (Nat.le_refl _) (by omega))]
    | succ d ih =>
      intro x fu T hx' hfu n1 n2
      obtain ⟨fu, rfl⟩ : ∃ f', fu = f' + 1 := ⟨fu - 1, by omega⟩
      have hxT := n1.mfr.fx hx
      have x8 : x < 480 := by rw [hN] at hx'; omega
      obtain ⟨q1, q2, -, q4⟩ := buryN_de (L := L) (P := dieP N m) (N := N) (B := B) hT.lg x (by omega)
      rw [← n2] at q1 q2 q4
      have wT : WB (ai T 198) B := q4 (by rw [hN]; exact w)
      have E : EqX xD N (ai T 198) := fun k a b c => q1 k a b c
      have k7 : kN (ai T 198) 7 = kN N 7 := E.kn (by omega) (by omega) (by unfold xD; omega)
      have k8 : ai T 198 8 = nI (kN N 8) := by rw [q1 8 (by omega) (by omega) (by unfold xD; omega), hN]; exact w.n8.1
      have h4 : ∀ m', m' < kN N 7 → manyN N m' ≤ 4 := fun m' h => by rw [hN] at h ⊢; exact (w.wM m' h).2.2.2.1.2
      have has : ∀ m', m' < kN N 7 → (hasN (ai T 198) m' x ↔ hasN N m' x) := fun m' h => E.has (fun k z => by unfold xD at z; omega) (by rw [hN] at h; omega) (h4 m' h)
      have kept : ∀ m', m' < kN N 7 → (keptN (ai T 198) m' ↔ keptN N m') := fun m' h => E.kept (fun k z => by unfold xD at z; omega) (by rw [hN] at h; omega) (by rw [hN]; exact b4)
      have hm' : m < kN N 7 := by rw [hN]; exact hm
      have go : ∀ T2, Net T T2 → ai T2 198 = buryN L (dieP N m) (x + 1) N → ∃ T', f_X11_buryParts_L77 F (fun a0 a1 a2 a3 => f_X11_buryParts_L11 F fu a0 a1 a2 a3) T2 197 (nI m) (nI x) = some T' ∧ Net S T' ∧ ai T' 198 = buryN L (dieP N m) (kN N 8) N := by
        intro T2 y1 y2
        obtain ⟨T', g1, g2⟩ := ih (x + 1) fu T2 (by omega) (by omega) (n1.tr y1) y2
        refine ⟨T', ?_, g2⟩
        unfold f_X11_buryParts_L77
        rw [nI_1, lt_eq]
        exact g1
      have run : ∀ r, f_X11_buryParts_L11 F (fu + 1) T 197 (nI m) (nI x) = r ↔ (Option.bind (f_X11_has F T 197 (nI m) (nI x)) fun z6 => lt z6.1 fun r8 => lt z6.2 fun S7 =>
    if r8 = 0 then
    (f_X11_buryParts_L77 F (fun a0 a1 a2 a3 => f_X11_buryParts_L11 F fu a0 a1 a2 a3) S7 197 (nI m) (nI x))
    else
    (Option.bind (f_X11_isDead F S7 197 (nI x)) fun z11 => lt z11.1 fun r13 => lt z11.2 fun S12 =>
    if ¬ r13 = 0 then
    (f_X11_buryParts_L77 F (fun a0 a1 a2 a3 => f_X11_buryParts_L11 F fu a0 a1 a2 a3) S12 197 (nI m) (nI x))
    else
    (Option.bind (f_X11_keepers F S12 197 (nI x)) fun z16 => lt z16.1 fun r18 => lt z16.2 fun S17 =>
    if r18 ≤ 0 then
    (Option.bind (sr S17 1001 197) fun j21 =>
    Option.bind (sr S17 1001 197) fun j22 =>
    cki 2 (ln S17 j22) <|
    cki ((4771 + (3 * nI x)) + 2) (ln S17 j21) <|
    lt (uai S17 j21 (Int32.toNatClampNeg ((4771 + (3 * nI x)) + 2)) (ai S17 j22 (Int32.toNatClampNeg 2))) fun S25 =>
    Option.bind (f_X11_log F S25 197 ((6 : Int32)) (nI x)) fun S27 =>
    f_X11_buryParts_L77 F (fun a0 a1 a2 a3 => f_X11_buryParts_L11 F fu a0 a1 a2 a3) S27 197 (nI m) (nI x))
    else
    (f_X11_buryParts_L77 F (fun a0 a1 a2 a3 => f_X11_buryParts_L11 F fu a0 a1 a2 a3) S17 197 (nI m) (nI x))))) = r := by
        intro r
        conv => lhs; lhs; unfold f_X11_buryParts_L11
        rw [hxT.r1001_197, ob_some, hxT.l198, show (8 : Int32) = nI 8 from rfl, cki_nI (by omega) (by omega), nI_clamp (by omega), k8, if_neg (nI_ge (by omega) (by rw [hN]; omega))]
      have hasT := m_has (F := F) hxT wT (m := m) (q := x) (by rw [k7]; exact hm') x8 hF
      by_cases c : hasN N m x
      · have c' : hasN (ai T 198) m x := (has m hm').mpr c
        have de : deN (ai T 198) x = -1 := by
          rw [q2 x x8, pif_f (fun z => by omega), hN]
          exact hd x (by rw [← hN]; exact c)
        have cnt : cntP (fun m' => hasN (ai T 198) m' x ∧ keptN (ai T 198) m') (kN (ai T 198) 7) = 0 ↔ dieP N m x := by
          rw [k7, cntP_z]
          unfold dieP
          exact ⟨fun z => ⟨c, fun ⟨m', x1, x2, x3⟩ => z m' x1 ⟨(has m' x1).mpr x2, (kept m' x1).mpr x3⟩⟩, fun z m' x1 y => z.2 ⟨m', x1, (has m' x1).mp y.1, (kept m' x1).mp y.2⟩⟩
        have cle := cntP_le (fun m' => hasN (ai T 198) m' x ∧ keptN (ai T 198) m') (kN (ai T 198) 7)
        have c7 : kN (ai T 198) 7 ≤ 120 := wT.n7.2
        by_cases cd : dieP N m x
        · obtain ⟨U, hU⟩ : ∃ U, U = uai T 198 (4773 + 3 * x) (ai T 198 2) := ⟨_, rfl⟩
          have NU : Net T U := by rw [hU]; exact Net.uai _ _
          have uU : ai U 198 = upd (ai T 198) (4773 + 3 * x) (ai T 198 2) := by
            funext k
            rw [hU, ai_uai]
            unfold upd
            by_cases z : k = 4773 + 3 * x
            · rw [if_pos ⟨rfl, z⟩, if_pos z]
            · rw [if_neg (fun y => z y.2), if_neg z]
          have wU' : WB (ai U 198) B := by rw [uU]; exact wT.de x8
          obtain ⟨V, v1, v2, v3⟩ := m_logL (F := F) hT (NU.mfr.fx hxT) ((NU.si 1005 197).trans ((n1.si 1005 197).trans ht)) wU' 6 (nI x) hF
          obtain ⟨T', g1, g2⟩ := go V (NU.tr v2) (by rw [v3, uU, buryN_s, pif_t cd, n2])
          refine ⟨T', ?_, g2⟩
          rw [run, hasT, ob_some]
          simp only [lt_eq]
          rw [pI_t c', if_neg (by decide), m_isDead hxT x8, ob_some]
          simp only [lt_eq, ne_bI]
          rw [if_neg (show ¬ ¬ deN (ai T 198) x = -1 from fun z => z de), m_keepers hxT wT x8 hF, ob_some, cnt.mpr cd]
          simp only [lt_eq]
          rw [if_pos (by decide), hxT.r1001_197, ob_some, ob_some, hxT.l198, show (4771 : Int32) = nI 4771 from rfl, show (3 : Int32) = nI 3 from rfl, show (2 : Int32) = nI 2 from rfl, nI_mul, nI_add, nI_add, show 4771 + 3 * x + 2 = 4773 + 3 * x by omega, cki_nI (by omega) (by omega), cki_nI (by omega) (by omega), nI_clamp (by omega), nI_clamp (by omega), ← hU, v1, ob_some]
          exact g1
        · obtain ⟨T', g1, g2⟩ := go T (Net.rf T) (by rw [buryN_s, pif_f cd, n2])
          refine ⟨T', ?_, g2⟩
          rw [run, hasT, ob_some]
          simp only [lt_eq]
          rw [pI_t c', if_neg (by decide), m_isDead hxT x8, ob_some]
          simp only [lt_eq, ne_bI]
          have cn : ¬ cntP (fun m' => hasN (ai T 198) m' x ∧ keptN (ai T 198) m') (kN (ai T 198) 7) = 0 := fun z => cd (cnt.mp z)
          rw [if_neg (show ¬ ¬ deN (ai T 198) x = -1 from fun z => z de), m_keepers hxT wT x8 hF, ob_some]
          simp only [lt_eq]
          rw [if_neg (nI_nle (by omega) (by omega))]
          exact g1
      · have c' : ¬ hasN (ai T 198) m x := fun z => c ((has m hm').mp z)
        obtain ⟨T', g1, g2⟩ := go T (Net.rf T) (by rw [buryN_s, pif_f (fun z => c z.1), n2])
        refine ⟨T', ?_, g2⟩
        rw [run, hasT, ob_some]
        simp only [lt_eq]
        rw [pI_f c', if_pos rfl]
        exact g1
  unfold f_X11_buryParts
  rw [m_isKeptMsg hx w (by omega) hF, ob_some]
  simp only [lt_eq, pI_e0]
  by_cases k : keptN (ai S 198) m
  · rw [pif_t k, pif_t k]
    exact ⟨S, rfl, Net.rf S, rfl⟩
  · rw [pif_f k, pif_f k, ← hN]
    exact loop (kN N 8) 0 F S (by omega) (by rw [hN]; omega) (Net.rf S) (by rw [buryN_0]; exact hN.symm)
end Mo
