/-! the law's loop over its messages -/
theorem ps_cm {X : XS} {m : Nat} {a : PS} {i : Nat} : ∀ d, (psN X m a i).2.1 ≤ (psN X m a (i + d)).2.1 := by
  intro d
  induction d with
  | zero => exact Nat.le_refl _
  | succ d ih =>
    rw [← Nat.add_assoc, ps_s]
    unfold psS
    by_cases z : (psN X m a (i + d)).1 (soX X m (i + d)) = 0
    · rw [if_pos z]
      show _ ≤ (psN X m a (i + d)).2.1 + 1
      omega
    · rw [if_neg z]; exact ih
def LwS (X : XS) (S : St) (n a : Nat) (N B : Nat → Int32) (P : PS) (us ab : Nat → Nat) (many ev : Nat) : Prop := CS S n a N B ∧ LN X N B P us ab many ev ∧ Av S a P.1 us ab
def LB (m : Nat) (P : PS) (us ab : Nat → Nat) (many ev : Nat) : Prop := many ≤ m ∧ ev ≤ 4 * m ∧ (∀ u, u < 3 → us u ≤ 24 * m ∧ ab u ≤ m) ∧ P.2.2 + rm6 P.1 = 25
section Ni
variable {F : Nat} {S : St} {n a m many ev : Nat} {X : XS} {N B : Nat → Int32} {P : PS} {us ab : Nat → Nat}
theorem l_523 {k77 : St → Nat → XS → Nat → Nat → Nat → Nat → Int32 → Int32 → Int32 → Int32 → Int32 → Option (Int32 × St × Nat)} {v0 : XS} {v1 v2 v3 v4 : Nat} {v5 v6 v7 v8 : Int32} : f_L_law_L523 F k77 S n v0 v1 v2 v3 v4 v5 v6 v7 v8 (nI m) = k77 S n v0 v1 v2 v3 v4 v5 v6 v7 v8 (nI (m + 1)) := by
  unfold f_L_law_L523
  rw [lt_eq, nI_1]
theorem l_77 (hX : X.2 ≤ 260) (hF : 100000 ≤ F) (hm : m < 9) (ls : LwS X S n a N B P us ab many ev) (lb : LB m P us ab many ev) (fu : Nat) :
    ∃ S' n' N' B' P' us' ab' many' ev', LwS X S' n' a N' B' P' us' ab' many' ev' ∧ LB (m + 1) P' us' ab' many' ev' ∧
      f_L_law_L77 F (fu + 1) S n X 0 a (a + 1) (a + 2) (nI P.2.1) (nI P.2.2) (nI many) (nI ev) (nI m) = f_L_law_L77 F fu S' n' X 0 a (a + 1) (a + 2) (nI P'.2.1) (nI P'.2.2) (nI many') (nI ev') (nI (m + 1)) := by
  obtain ⟨c, h, av⟩ := ls
  obtain ⟨q1, q2, q3, q4⟩ := lb
  obtain ⟨rq, as, nl, s20⟩ := id c
  have ux := usX_b X
  have a1 := as.1
  have a2 := as.2.1
  have hus : ∀ u, u < 3 → us u ≤ 1000 := fun u hu => by have := (q3 u hu).1; omega
  have hus' : ∀ u, u < usX X → us u ≤ 1000 := fun u hu => hus u (by omega)
  obtain ⟨fu', c', c1, c2, c3⟩ := l_90 (F := F) (k77 := fun a0 a1 a2 a3 a4 a5 a6 a7 a8 a9 a10 a11 => f_L_law_L77 F fu a0 a1 a2 a3 a4 a5 a6 a7 a8 a9 a10 a11) (n := n) (m := m) (v5 := nI P.2.1) (v6 := nI P.2.2) (v7 := nI many) (v8 := nI ev) hX hF (by omega) as.2.2.1.2.1 hus av.2.1 (usX X) 0 F 0 (by omega) (by omega) (by omega) (fun i => by
    rw [Nat.zero_testBit]
    exact ⟨fun y => (by cases y), fun y => by omega⟩)
  obtain ⟨b1', b2⟩ := bo_b (m := m) h hus'
  have b1 : bX X m N < 8 := b1'
  have ec : c' = bX X m N := by
    apply Nat.eq_of_testBit_eq
    intro i
    have h1 := c2 i
    have h2 : (bX X m N).testBit i = true ↔ i < usX X ∧ boP X m us i := b2 i
    cases e1 : c'.testBit i <;> cases e2 : (bX X m N).testBit i
    · rfl
    · rw [e1] at h1; exact absurd (h1.mpr (h2.mp e2)) (by decide)
    · rw [e2] at h2; exact absurd (h2.mpr (h1.mp e1)) (by decide)
    · rfl
  subst ec
  obtain ⟨af10, afA, afB'⟩ := af_all (m := m) rq.2.1 rq.2.2.2 h (by omega) (by omega) hus'
  obtain ⟨T, nT, d1, d2, d3, d4, d5, d6, d7, d8⟩ := e_Ldel (F := F) (m := m) hX (by omega) rq s20 h (by omega) (by omega) hF
  have rl := re_lt (X := X) (m := m)
  have bcb := bc8_b (b := bX X m N)
  have head : f_L_law_L77 F (fu + 1) S n X 0 a (a + 1) (a + 2) (nI P.2.1) (nI P.2.2) (nI many) (nI ev) (nI m) = f_L_law_L90 F (fun a0 a1 a2 a3 a4 a5 a6 a7 a8 a9 a10 a11 => f_L_law_L77 F fu a0 a1 a2 a3 a4 a5 a6 a7 a8 a9 a10 a11) (fu' + 1) S n X 0 a (a + 1) (a + 2) (nI P.2.1) (nI P.2.2) (nI many) (nI ev) (nI m) (nI (bX X m N)) (nI (usX X)) := by
    rw [← c3]
    conv => lhs; unfold f_L_law_L77
    rw [if_neg (show ¬ (9 : Int32) ≤ nI m from nI_ge (b := 9) (by omega) (by omega))]
    rfl
  have avT : Av T a P.1 us ab := av.to (fun k x y => d5 k (by omega) (by omega))
  by_cases z : bX X m N = reX X m
  · -- nobody keeps it
    have L' := afA z
    rw [if_pos z] at d1
    have k7 := L'.2.2.1.1
    have as' : AS T nT a (afX X m N B) := as.to d4 d5 d6 (fun x j h1 h2 => Or.inl ⟨by rw [h.2.2.1.1]; omega, by rw [← d7 z]; exact h2⟩)
    refine ⟨T, nT, _, _, P, us, ab, many, _, ⟨⟨d2, as', L'.nl, d3⟩, L', avT⟩, ⟨by omega, by omega, fun u hu => ⟨by have := (q3 u hu).1; omega, by have := (q3 u hu).2; omega⟩, q4⟩, ?_⟩
    rw [head]
    unfold f_L_law_L90
    rw [e_usersL hX, ob_some]
    simp only [lt_eq]
    rw [if_pos (nI_le (Nat.le_refl _) (by omega)), d1, ob_some]
    simp only []
    rw [a_bounced d2.2.1 d2.2.2.2, af10, ob_some]
    simp only []
    rw [if_neg (fun y => y True.intro), e_recipients hX (by omega), ob_some]
    simp only []
    rw [if_neg (fun y => y (by rw [z]))]
    unfold f_L_law_L187
    rw [if_pos rfl, e_bc8 F T b1, ob_some]
    simp only [lt_eq]
    rw [if_neg (show ¬ (0 : Int32) ≤ -2 by decide)]
    unfold f_L_law_L209
    rw [lt_eq, if_neg (show ¬ (0 : Int32) ≤ -2 by decide), l_523, show nI (bc8 (bX X m N)) + (0 : Int32) = nI (bc8 (bX X m N)) by rw [show (0 : Int32) = nI 0 from rfl, nI_add, Nat.add_zero], nI_add]
  · obtain ⟨L', cl, hcl, nm⟩ := afB' z
    rw [if_neg z] at d1
    obtain ⟨⟨j, j1, j2⟩, d8'⟩ := d8 z
    have k7 : kN (afX X m N B) 7 = many + 1 := L'.2.2.1.1
    have k8 : kN (afX X m N B) 8 = (psN X m P (paX X m)).2.1 := L'.2.1.2.1
    have b8 := d2.2.2.2.c0.wb.n8.2
    have as' : AS T nT a (afX X m N B) := as.to d4 d5 d6 (fun x j' h1 h2 => by
      by_cases y : x = many
      · rw [y, j2] at h2
        rw [← Option.some.inj h2]
        exact Or.inr (by omega)
      · exact Or.inl ⟨by rw [h.2.2.1.1]; omega, by rw [← d8' x y]; exact h2⟩)
    have cT : CS T nT a (afX X m N B) (afY X m N B) := ⟨d2, as', L'.nl, d3⟩
    have hk : ∃ u, u < usX X ∧ rdX X m (bX X m N) u := by
      obtain ⟨-, u, u1, u2⟩ := L'.2.2.2.1 many (by omega)
      refine ⟨u, u1, ?_⟩
      rw [(nm.2.2.2 u (by omega)).1] at u2
      by_cases y : rdX X m (bX X m N) u
      · exact y
      · rw [pif_f y] at u2; exact absurd u2 (by decide)
    have b480 : ∀ i s, i ≤ paX X m → s < 6 → (psN X m P i).1 s ≤ 480 := fun i s hi hs => by
      by_cases y : (psN X m P i).1 s = 0
      · omega
      · have e := ps_st y (paX X m - i)
        rw [show i + (paX X m - i) = paX X m by omega] at e
        have := (L'.2.1.1.1 s hs (by rw [e]; exact y)).1
        rw [e] at this
        omega
    obtain ⟨T2, g1, g2, g3⟩ := l_224 (F := F) (k77 := fun a0 a1 a2 a3 a4 a5 a6 a7 a8 a9 a10 a11 => f_L_law_L77 F fu a0 a1 a2 a3 a4 a5 a6 a7 a8 a9 a10 a11) (P := P) (many := many) (v7 := nI many) (v8 := nI (ev + bc8 (bX X m N) + 1)) (v10 := nI (bX X m N)) hX (by omega) (by omega) (by omega) (fun i hi => by have := ps_cm (X := X) (m := m) (a := P) (i := i) (paX X m - i); rw [show i + (paX X m - i) = paX X m by omega] at this; exact this) nm.1 nm.2.2.1 b480 (paX X m) 0 F T (by omega) (by have := paX_b X m; omega) cT avT
    obtain ⟨T3, U', A', e1, e2, e3, e4, e5⟩ := l_300 (F := F) (k77 := fun a0 a1 a2 a3 a4 a5 a6 a7 a8 a9 a10 a11 => f_L_law_L77 F fu a0 a1 a2 a3 a4 a5 a6 a7 a8 a9 a10 a11) (v5 := nI (psN X m P (paX X m)).2.1) (v6 := nI (psN X m P (paX X m)).2.2) (v8 := nI (ev + bc8 (bX X m N) + 1)) (us := us) (ab := ab) hX hF (by omega) b1 L'.1.2.1 (by omega) hcl nm hk (usX X) 0 F T2 us ab (by omega) (by omega) g1 g2 (fun x hx => by omega) (fun x _ => ⟨rfl, rfl⟩)
    have av3 : Av T3 a (psN X m P (paX X m)).1 (usA X m (bX X m N) us) (abA X m (bX X m N) ab) := by
      refine ⟨e2.1, fun u hu => ?_, fun u hu => ?_⟩
      · rw [e2.2.1 u hu]
        by_cases y : u < usX X
        · rw [(e3 u y).1]
        · rw [(e4 u (by omega)).1]
          unfold usA
          rw [pif_f (fun t => y (rd_lt b1 t))]
      · rw [e2.2.2 u hu]
        by_cases y : u < usX X
        · rw [(e3 u y).2]
        · rw [(e4 u (by omega)).2]
          unfold abA
          rw [pif_f (fun t => y (rd_lt b1 t.1))]
    refine ⟨T3, nT, _, _, psN X m P (paX X m), usA X m (bX X m N) us, abA X m (bX X m N) ab, many + 1, _, ⟨e1, L', av3⟩, ⟨by omega, by omega, fun u hu => ⟨?_, ?_⟩, ps_rm q4 _⟩, ?_⟩
    · have := (q3 u hu).1
      have := siX_b (X := X) (m := m)
      unfold usA
      by_cases y : rdX X m (bX X m N) u
      · rw [pif_t y]; omega
      · rw [pif_f y]; omega
    · have := (q3 u hu).2
      unfold abA
      by_cases y : rdX X m (bX X m N) u ∧ abX X m
      · rw [pif_t y]; omega
      · rw [pif_f y]; omega
    rw [head]
    unfold f_L_law_L90
    rw [e_usersL hX, ob_some]
    simp only [lt_eq]
    rw [if_pos (nI_le (Nat.le_refl _) (by omega)), d1, ob_some]
    simp only []
    rw [a_bounced d2.2.1 d2.2.2.2, af10, ob_some]
    simp only []
    rw [if_neg (fun y => y True.intro), e_recipients hX (by omega), ob_some]
    simp only []
    rw [if_pos (fun y => z ((nI_eq (by omega) (by omega)).mp y))]
    unfold f_L_law_L187
    rw [if_pos rfl, e_bc8 F T b1, ob_some]
    simp only [lt_eq]
    rw [if_pos (nI_pos' (by omega))]
    unfold f_L_law_L209
    rw [lt_eq, if_pos (show (0 : Int32) ≤ nI many from nI_pos' (by omega)), nI_1, nI_add, ← Nat.add_assoc]
    have g3' := g3
    rw [show nI 0 = (0 : Int32) from rfl] at g3'
    rw [show (psN X m P 0) = P from rfl] at g3'
    rw [g3']
    exact e5
theorem l_nine (hX : X.2 ≤ 260) (hF : 100000 ≤ F) : ∀ d m fu S n N B P us ab many ev, m + d = 9 → LwS X S n a N B P us ab many ev → LB m P us ab many ev →
    ∃ S' n' N' B' P' us' ab' many' ev', LwS X S' n' a N' B' P' us' ab' many' ev' ∧ LB 9 P' us' ab' many' ev' ∧
      f_L_law_L77 F (fu + d) S n X 0 a (a + 1) (a + 2) (nI P.2.1) (nI P.2.2) (nI many) (nI ev) (nI m) = f_L_law_L77 F fu S' n' X 0 a (a + 1) (a + 2) (nI P'.2.1) (nI P'.2.2) (nI many') (nI ev') (nI 9) := by
  intro d
  induction d with
  | zero =>
    intro m fu S n N B P us ab many ev hm ls lb
    have e : m = 9 := by omega
    subst e
    exact ⟨S, n, N, B, P, us, ab, many, ev, ls, lb, rfl⟩
  | succ d ih =>
    intro m fu S n N B P us ab many ev hm ls lb
    obtain ⟨S1, n1, N1, B1, P1, us1, ab1, many1, ev1, g1, g2, g3⟩ := l_77 hX hF (by omega) ls lb (fu + d)
    obtain ⟨S2, n2, N2, B2, P2, us2, ab2, many2, ev2, f1, f2, f3⟩ := ih (m + 1) fu S1 n1 N1 B1 P1 us1 ab1 many1 ev1 (by omega) g1 g2
    exact ⟨S2, n2, N2, B2, P2, us2, ab2, many2, ev2, f1, f2, by rw [← f3, ← g3, Nat.add_assoc]⟩
end Ni
