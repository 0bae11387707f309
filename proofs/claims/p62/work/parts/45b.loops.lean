/-! the law's loops over one message -/
section Lo6
variable {F : Nat} {S : St} {n a m many : Nat} {X : XS} {N B : Nat → Int32} {us ab : Nat → Nat}
variable {k77 : St → Nat → XS → Nat → Nat → Nat → Nat → Int32 → Int32 → Int32 → Int32 → Int32 → Option (Int32 × St × Nat)}
theorem or8 {c u : Nat} (hc : c < 8) (hu : u < 3) : c ||| 2 ^ u < 8 := Nat.or_lt_two_pow (n := 3) hc (Nat.pow_lt_pow_right (by omega) hu)
/-- who bounces is counted -/
theorem l_90 (hX : X.2 ≤ 260) (hF : 100000 ≤ F) (hm : m < 100) (hl : ln S (a + 1) = 3) (hus : ∀ u, u < 3 → us u ≤ 1000) (av : ∀ u, u < 3 → ai S (a + 1) u = nI (us u)) {v5 v6 v7 v8 : Int32} : ∀ d u fu c, u + d = usX X → d < fu → c < 8 → (∀ i, c.testBit i = true ↔ i < u ∧ boP X m us i) →
    ∃ fu' c', c' < 8 ∧ (∀ i, c'.testBit i = true ↔ i < usX X ∧ boP X m us i) ∧ f_L_law_L90 F k77 fu S n X 0 a (a + 1) (a + 2) v5 v6 v7 v8 (nI m) (nI c) (nI u) = f_L_law_L90 F k77 (fu' + 1) S n X 0 a (a + 1) (a + 2) v5 v6 v7 v8 (nI m) (nI c') (nI (usX X)) := by
  have ux := usX_b X
  intro d
  induction d with
  | zero =>
    intro u fu c hu hfu hc hb
    obtain ⟨fu, rfl⟩ : ∃ q, fu = q + 1 := ⟨fu - 1, by omega⟩
    have e : u = usX X := by omega
    rw [e] at hb ⊢
    exact ⟨fu, c, hc, hb, rfl⟩
  | succ d ih =>
    intro u fu c hu hfu hc hb
    obtain ⟨fu, rfl⟩ : ∃ q, fu = q + 1 := ⟨fu - 1, by omega⟩
    have rl := re_lt (X := X) (m := m)
    have hq := quX_b X u
    have hs := siX_b (X := X) (m := m)
    have hu3 := hus u (by omega)
    have step : ∀ c', c' < 8 → (∀ i, c'.testBit i = true ↔ i < u + 1 ∧ boP X m us i) → ∃ fu' c'', c'' < 8 ∧ (∀ i, c''.testBit i = true ↔ i < usX X ∧ boP X m us i) ∧ f_L_law_L143 F k77 (fun a0 a1 a2 a3 a4 a5 a6 a7 a8 a9 a10 a11 a12 a13 => f_L_law_L90 F k77 fu a0 a1 a2 a3 a4 a5 a6 a7 a8 a9 a10 a11 a12 a13) S n X 0 a (a + 1) (a + 2) v5 v6 v7 v8 (nI m) (nI c') (nI u) = f_L_law_L90 F k77 (fu' + 1) S n X 0 a (a + 1) (a + 2) v5 v6 v7 v8 (nI m) (nI c'') (nI (usX X)) := by
      intro c' h1 h2
      obtain ⟨fu', c'', g1, g2, g3⟩ := ih (u + 1) fu c' (by omega) (by omega) h1 h2
      refine ⟨fu', c'', g1, g2, ?_⟩
      unfold f_L_law_L143
      rw [lt_eq, nI_1]
      exact g3
    have same : ¬ boP X m us u → ∀ i, c.testBit i = true ↔ i < u + 1 ∧ boP X m us i := fun hn i => by
      rw [hb i]
      refine ⟨fun y => ⟨by omega, y.2⟩, fun y => ⟨?_, y.2⟩⟩
      by_cases e : i = u
      · rw [e] at y; exact absurd y.2 hn
      · omega
    have tb := sh_bit (reX X m) rl u (by omega)
    have goal : ∀ r, (∃ fu' c'', c'' < 8 ∧ (∀ i, c''.testBit i = true ↔ i < usX X ∧ boP X m us i) ∧ r = f_L_law_L90 F k77 (fu' + 1) S n X 0 a (a + 1) (a + 2) v5 v6 v7 v8 (nI m) (nI c'') (nI (usX X))) → f_L_law_L90 F k77 (fu + 1) S n X 0 a (a + 1) (a + 2) v5 v6 v7 v8 (nI m) (nI c) (nI u) = r → ∃ fu' c'', c'' < 8 ∧ (∀ i, c''.testBit i = true ↔ i < usX X ∧ boP X m us i) ∧ f_L_law_L90 F k77 (fu + 1) S n X 0 a (a + 1) (a + 2) v5 v6 v7 v8 (nI m) (nI c) (nI u) = f_L_law_L90 F k77 (fu' + 1) S n X 0 a (a + 1) (a + 2) v5 v6 v7 v8 (nI m) (nI c'') (nI (usX X)) := fun r h e => by
      rw [e]; exact h
    by_cases z : (reX X m).testBit u = true
    · by_cases y : us u + siX X m ≤ quX X u
      · refine goal _ (step c hc (same (fun t => by have := t.2; omega))) ?_
        conv => lhs; unfold f_L_law_L90
        rw [e_usersL hX, ob_some]
        simp only [lt_eq]
        rw [if_neg (nI_ge (by omega) (by omega)), e_recipients hX hm, ob_some]
        simp only []
        rw [if_neg (fun t => t (tb.mpr z)), hl, cki_nI (by omega) (by omega), e_size hX hm (by omega), ob_some]
        simp only []
        rw [e_quota hX (by omega), ob_some]
        simp only []
        rw [nI_clamp (by omega), av u (by omega), nI_add, if_pos (nI_le y (by omega))]
      · have nb : ∀ i, (c ||| 2 ^ u).testBit i = true ↔ i < u + 1 ∧ boP X m us i := fun i => by
          rw [Nat.testBit_or, Bool.or_eq_true, hb i, Nat.testBit_two_pow, decide_eq_true_eq]
          constructor
          · rintro (t | t)
            · exact ⟨by omega, t.2⟩
            · exact ⟨by omega, by rw [← t]; exact ⟨z, by omega⟩⟩
          · rintro ⟨t1, t2⟩
            by_cases e : i = u
            · exact Or.inr e.symm
            · exact Or.inl ⟨by omega, t2⟩
        refine goal _ (step (c ||| 2 ^ u) (or8 hc (by omega)) nb) ?_
        conv => lhs; unfold f_L_law_L90
        rw [e_usersL hX, ob_some]
        simp only [lt_eq]
        rw [if_neg (nI_ge (by omega) (by omega)), e_recipients hX hm, ob_some]
        simp only []
        rw [if_neg (fun t => t (tb.mpr z)), hl, cki_nI (by omega) (by omega), e_size hX hm (by omega), ob_some]
        simp only []
        rw [e_quota hX (by omega), ob_some]
        simp only []
        rw [nI_clamp (by omega), av u (by omega), nI_add, if_neg (nI_ge (by omega) (by omega)), or_bit c hc u (by omega)]
    · refine goal _ (step c hc (same (fun t => z t.1))) ?_
      conv => lhs; unfold f_L_law_L90
      rw [e_usersL hX, ob_some]
      simp only [lt_eq]
      rw [if_neg (nI_ge (by omega) (by omega)), e_recipients hX hm, ob_some]
      simp only []
      rw [if_pos (fun t => z (tb.mp t))]
/-- the parts' numbers -/
theorem l_224 (hX : X.2 ≤ 260) (hm : m < 100) {P : PS} (h7 : many < kN N 7) (h480 : (psN X m P (paX X m)).2.1 ≤ 480) (mono : ∀ i, i ≤ paX X m → (psN X m P i).2.1 ≤ (psN X m P (paX X m)).2.1) (mn : manyN N many = paX X m) (mp : ∀ i, i < paX X m → N (334 + 7 * many + i) = nI ((psN X m P (i + 1)).1 (soX X m i) - 1)) (b480 : ∀ i s, i ≤ paX X m → s < 6 → (psN X m P i).1 s ≤ 480) {v7 v8 v10 : Int32} :
    ∀ d i fu S, i + d = paX X m → d < fu → CS S n a N B → Av S a (psN X m P i).1 us ab →
    ∃ T, CS T n a N B ∧ Av T a (psN X m P (paX X m)).1 us ab ∧ f_L_law_L224 F k77 fu S n X 0 a (a + 1) (a + 2) (nI (psN X m P i).2.1) (nI (psN X m P i).2.2) v7 v8 (nI m) v10 (nI many) (nI i) = f_L_law_L300 F k77 F T n X 0 a (a + 1) (a + 2) (nI (psN X m P (paX X m)).2.1) (nI (psN X m P (paX X m)).2.2) v7 v8 (nI m) v10 (nI many) 0 := by
  have pb := paX_b X m
  intro d
  induction d with
  | zero =>
    intro i fu S hi hfu c av
    obtain ⟨fu, rfl⟩ : ∃ q, fu = q + 1 := ⟨fu - 1, by omega⟩
    have e : i = paX X m := by omega
    rw [e] at av ⊢
    refine ⟨S, c, av, ?_⟩
    unfold f_L_law_L224
    rw [e_parts hX hm, ob_some]
    simp only [lt_eq]
    rw [if_pos (nI_le (Nat.le_refl _) (by omega))]
  | succ d ih =>
    intro i fu S hi hfu c av
    obtain ⟨fu, rfl⟩ : ∃ q, fu = q + 1 := ⟨fu - 1, by omega⟩
    have so := soX_b X m i
    have l6 := c.2.1.2.2.1.1
    have b1 := b480 i (soX X m i) (by omega) so
    have b2 := b480 (i + 1) (soX X m i) (by omega) so
    have mo := mono i (by omega)
    -- the part's number is asked for
    have tail : ∀ T v5 v6, CS T n a N B → Av T a (psN X m P (i + 1)).1 us ab → v5 = nI (psN X m P (i + 1)).2.1 → v6 = nI (psN X m P (i + 1)).2.2 → ∃ T', CS T' n a N B ∧ Av T' a (psN X m P (paX X m)).1 us ab ∧ f_L_law_L274 F k77 (fun a0 a1 a2 a3 a4 a5 a6 a7 a8 a9 a10 a11 a12 a13 a14 => f_L_law_L224 F k77 fu a0 a1 a2 a3 a4 a5 a6 a7 a8 a9 a10 a11 a12 a13 a14) T n X 0 a (a + 1) (a + 2) v5 v6 v7 v8 (nI m) v10 (nI many) (nI i) (nI (soX X m i)) = f_L_law_L300 F k77 F T' n X 0 a (a + 1) (a + 2) (nI (psN X m P (paX X m)).2.1) (nI (psN X m P (paX X m)).2.2) v7 v8 (nI m) v10 (nI many) 0 := by
      intro T v5 v6 ct at' e5 e6
      obtain ⟨T', g1, g2, g3⟩ := ih (i + 1) fu T (by omega) (by omega) ct at'
      refine ⟨T', g1, g2, ?_⟩
      rw [← g3]
      have lt6 := ct.2.1.2.2.1.1
      have nz := ps_new (X := X) (m := m) (a := P) i
      unfold f_L_law_L274
      rw [a_partOf ct.fx ct.cl h7 (by omega), ob_some]
      simp only [lt_eq, sm_r]
      rw [lt6, cki_nI (by omega) (by omega), nI_clamp (by omega), at'.1 _ so, mp i (by omega)]
      unfold nuI
      rw [if_neg nz, if_pos rfl, nI_1, e5, e6]
    by_cases z : (psN X m P i).1 (soX X m i) = 0
    · have es : psN X m P (i + 1) = (updN (psN X m P i).1 (soX X m i) ((psN X m P i).2.1 + 1), (psN X m P i).2.1 + 1, (psN X m P i).2.2 + (ptL (soX X m i)).length) := by rw [ps_s]; exact if_pos z
      have av2 : Av (uai S a (soX X m i) (nI (psN X m P i).2.1)) a (psN X m P (i + 1)).1 us ab := by
        rw [es]
        exact av.nuw so (by unfold nuI; rw [if_neg (by omega), Nat.add_sub_cancel])
      obtain ⟨T', g1, g2, g3⟩ := tail (uai S a (soX X m i) (nI (psN X m P i).2.1)) (nI (psN X m P i).2.1 + 1) (nI (psN X m P i).2.2 + nI (ptL (soX X m i)).length) (c.uai (Or.inl rfl)) av2 (by rw [es, nI_1]) (by rw [es, nI_add])
      refine ⟨T', g1, g2, ?_⟩
      rw [← g3]
      conv => lhs; unfold f_L_law_L224
      rw [e_parts hX hm, ob_some]
      simp only [lt_eq]
      rw [if_neg (nI_ge (by omega) (by omega)), e_sort hX hm (by omega), ob_some]
      simp only []
      rw [l6, cki_nI (by omega) (by omega), nI_clamp (by omega), av.1 _ so, if_neg (fun t => (nu_neg (by omega)).mp t z), cki_nI (by omega) (by omega), e_part so, ob_some]
      simp only []
      rw [e_len (m := 0) (Tx.cst (x := 15 + soX X m i) (by omega)), ob_some]
      rfl
    · have es : psN X m P (i + 1) = psN X m P i := by rw [ps_s]; exact if_neg z
      obtain ⟨T', g1, g2, g3⟩ := tail S (nI (psN X m P i).2.1) (nI (psN X m P i).2.2) c (by rw [es]; exact av) (by rw [es]) (by rw [es])
      refine ⟨T', g1, g2, ?_⟩
      rw [← g3]
      conv => lhs; unfold f_L_law_L224
      rw [e_parts hX hm, ob_some]
      simp only [lt_eq]
      rw [if_neg (nI_ge (by omega) (by omega)), e_sort hX hm (by omega), ob_some]
      simp only []
      rw [l6, cki_nI (by omega) (by omega), nI_clamp (by omega), av.1 _ so, if_pos ((nu_neg (by omega)).mpr z)]
end Lo6
