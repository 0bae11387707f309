/-! the law's loop over the users of a message that is kept -/
section Us6
variable {F : Nat} {n a m many : Nat} {X : XS} {N B : Nat → Int32} {us ab nu : Nat → Nat} {b : Nat} {cl : Nat → Int32} {P : PS}
variable {k77 : St → Nat → XS → Nat → Nat → Nat → Nat → Int32 → Int32 → Int32 → Int32 → Int32 → Option (Int32 × St × Nat)}
noncomputable def usA (X : XS) (m b : Nat) (us : Nat → Nat) (u : Nat) : Nat := pif (rdX X m b u) (us u + siX X m) (us u)
noncomputable def abA (X : XS) (m b : Nat) (ab : Nat → Nat) (u : Nat) : Nat := pif (rdX X m b u ∧ abX X m) (ab u + 1) (ab u)
theorem rd8 {b : Nat} : reX X m &&& (1023 ^^^ b) < 8 := Nat.lt_of_le_of_lt Nat.and_le_left re_lt
theorem rd_I (b : Nat) : nI (reX X m) &&& (nI b ^^^ (-1)) = nI (reX X m &&& (1023 ^^^ b)) := off_eq _ _ (by have := re_lt (X := X) (m := m); omega)
theorem l_300 (hX : X.2 ≤ 260) (hF : 100000 ≤ F) (hm : m < 100) (hb : b < 8) (h4 : kN N 4 = usX X) (h7 : many < kN N 7) (hc : ∀ u, u < usX X → cl u = clI X m u) (nm : NM X m many P (rdX X m b) cl N) (hk : ∃ u, u < usX X ∧ rdX X m b u) {v5 v6 v8 : Int32} :
    ∀ d u fu S U A, u + d = usX X → d < fu → CS S n a N B → Av S a nu U A → (∀ x, x < u → U x = usA X m b us x ∧ A x = abA X m b ab x) → (∀ x, u ≤ x → U x = us x ∧ A x = ab x) →
    ∃ T U' A', CS T n a N B ∧ Av T a nu U' A' ∧ (∀ x, x < usX X → U' x = usA X m b us x ∧ A' x = abA X m b ab x) ∧ (∀ x, usX X ≤ x → U' x = us x ∧ A' x = ab x) ∧
      f_L_law_L300 F k77 fu S n X 0 a (a + 1) (a + 2) v5 v6 (nI many) v8 (nI m) (nI b) (nI many) (nI u) = k77 T n X 0 a (a + 1) (a + 2) v5 v6 (nI (many + 1)) v8 (nI (m + 1)) := by
  have ux := usX_b X
  have r8 := rd8 (X := X) (m := m) (b := b)
  obtain ⟨n1, n2, n3, n4⟩ := nm
  intro d
  induction d with
  | zero =>
    intro u fu S U A hu hfu c av lo hi
    obtain ⟨fu, rfl⟩ : ∃ q, fu = q + 1 := ⟨fu - 1, by omega⟩
    have e : u = usX X := by omega
    rw [e] at lo hi ⊢
    refine ⟨S, U, A, c, av, lo, hi, ?_⟩
    have bits : bitsN (fun u => 0 ≤ stN N many u ∧ stN N many u ≤ 0) (kN N 4) = reX X m &&& (1023 ^^^ b) := by
      apply Nat.eq_of_testBit_eq
      intro i
      have h1 := bits_tb (fun u => 0 ≤ stN N many u ∧ stN N many u ≤ 0) i (kN N 4)
      have h2 : (bitsN (fun u => 0 ≤ stN N many u ∧ stN N many u ≤ 0) (kN N 4)).testBit i = true ↔ (reX X m &&& (1023 ^^^ b)).testBit i = true := by
        rw [h1, h4]
        constructor
        · rintro ⟨y1, y2⟩
          rw [(n4 i (by omega)).1] at y2
          by_cases z : rdX X m b i
          · exact z
          · rw [pif_f z] at y2; exact absurd y2.1 (by decide)
        · intro y
          have y1 := rd_lt hb (show rdX X m b i from y)
          refine ⟨y1, ?_⟩
          show 0 ≤ stN N many i ∧ stN N many i ≤ 0
          rw [(n4 i (by omega)).1, pif_t (show rdX X m b i from y)]
          decide
      cases e1 : (bitsN (fun u => 0 ≤ stN N many u ∧ stN N many u ≤ 0) (kN N 4)).testBit i <;> cases e2 : (reX X m &&& (1023 ^^^ b)).testBit i
      · rfl
      · rw [e1, e2] at h2; exact absurd (h2.mpr rfl) (by decide)
      · rw [e1, e2] at h2; exact absurd (h2.mp rfl) (by decide)
      · rfl
    have kp : keptN N many := by
      obtain ⟨u, u1, u2⟩ := hk
      refine ⟨u, by omega, ?_⟩
      rw [(n4 u (by omega)).1, pif_t u2]
      decide
    unfold f_L_law_L300
    rw [e_usersL hX, ob_some]
    simp only [lt_eq]
    rw [if_pos (nI_le (Nat.le_refl _) (by omega)), a_readers c.fx c.cl h7 (by omega), ob_some]
    simp only [sm_r]
    rw [e_recipients hX hm, ob_some]
    simp only []
    rw [rd_I, bits, if_neg (fun y => y rfl), a_msg3 c.fx c.cl h7, ob_some]
    simp only [sm_r]
    rw [e_size hX hm (by omega), ob_some]
    simp only []
    rw [n2, if_neg (fun y => y rfl), a_msg2 c.fx c.cl h7, ob_some]
    simp only [sm_r]
    rw [e_parts hX hm, ob_some]
    simp only []
    rw [n1, if_neg (fun y => y rfl), a_msg4 c.fx c.cl h7 kp (by omega), ob_some]
    simp only [sm_r]
    rw [if_pos True.intro]
    unfold f_L_law_L523
    rw [lt_eq, nI_1, nI_1]
  | succ d ih =>
    intro u fu S U A hu hfu c av lo hi
    obtain ⟨fu, rfl⟩ : ∃ q, fu = q + 1 := ⟨fu - 1, by omega⟩
    have tb := sh_bit (reX X m &&& (1023 ^^^ b)) r8 u (by omega)
    obtain ⟨hU, hA⟩ := hi u (Nat.le_refl _)
    have l1 := c.2.1.2.2.1.2.1
    have l2 := c.2.1.2.2.1.2.2
    -- the next user
    have next : ∀ T p q, p = usA X m b us u → q = abA X m b ab u → T = uai (uai S (a + 1) u (nI p)) (a + 2) u (nI q) → ∃ T' U' A', CS T' n a N B ∧ Av T' a nu U' A' ∧ (∀ x, x < usX X → U' x = usA X m b us x ∧ A' x = abA X m b ab x) ∧ (∀ x, usX X ≤ x → U' x = us x ∧ A' x = ab x) ∧ f_L_law_L300 F k77 fu T n X 0 a (a + 1) (a + 2) v5 v6 (nI many) v8 (nI m) (nI b) (nI many) (nI (u + 1)) = k77 T' n X 0 a (a + 1) (a + 2) v5 v6 (nI (many + 1)) v8 (nI (m + 1)) := by
      intro T p q hp hq hT
      refine ih (u + 1) fu T (updN U u p) (updN A u q) (by omega) (by omega) ?_ ?_ (fun x hx => ?_) (fun x hx => ?_)
      · rw [hT]; exact (c.uai (Or.inr (Or.inl rfl))).uai (Or.inr (Or.inr rfl))
      · rw [hT]; exact (av.usw (by omega) rfl).abw (by omega) rfl
      · by_cases z : x = u
        · rw [z, updN_e, updN_e]; exact ⟨hp, hq⟩
        · rw [updN_n z, updN_n z]; exact lo x (by omega)
      · rw [updN_n (by omega), updN_n (by omega)]; exact hi x (by omega)
    have e12 : ai (uai S (a + 1) u (nI (usA X m b us u))) (a + 2) = ai S (a + 2) := ai_o (by omega)
    have fin : ∀ r, f_L_law_L300 F k77 (fu + 1) S n X 0 a (a + 1) (a + 2) v5 v6 (nI many) v8 (nI m) (nI b) (nI many) (nI u) = r → r = f_L_law_L300 F k77 fu (uai (uai S (a + 1) u (nI (usA X m b us u))) (a + 2) u (nI (abA X m b ab u))) n X 0 a (a + 1) (a + 2) v5 v6 (nI many) v8 (nI m) (nI b) (nI many) (nI (u + 1)) → ∃ T U' A', CS T n a N B ∧ Av T a nu U' A' ∧ (∀ x, x < usX X → U' x = usA X m b us x ∧ A' x = abA X m b ab x) ∧ (∀ x, usX X ≤ x → U' x = us x ∧ A' x = ab x) ∧
      f_L_law_L300 F k77 (fu + 1) S n X 0 a (a + 1) (a + 2) v5 v6 (nI many) v8 (nI m) (nI b) (nI many) (nI u) = k77 T n X 0 a (a + 1) (a + 2) v5 v6 (nI (many + 1)) v8 (nI (m + 1)) := fun r e1 e2 => by
      rw [e1, e2]
      exact next _ _ _ rfl rfl rfl
    by_cases z : rdX X m b u
    · -- the user keeps the message
      have zt : (reX X m &&& (1023 ^^^ b)).testBit u = true := z
      have eU : usA X m b us u = us u + siX X m := pif_t z
      obtain ⟨q1, q2, q3⟩ := n4 u (by omega)
      rw [pif_t z] at q1
      have one : ¬ (1 : Int32) = 0 := by decide
      -- the checks
      have chk : ∀ T, CS T n a N B → ∀ s0 s1 : Int32, s1 = nI (ab u) → s1 + s0 = nI (abA X m b ab u) → ln T (a + 2) = 3 → f_L_law_L383 F k77 (fun a0 a1 a2 a3 a4 a5 a6 a7 a8 a9 a10 a11 a12 a13 a14 => f_L_law_L300 F k77 fu a0 a1 a2 a3 a4 a5 a6 a7 a8 a9 a10 a11 a12 a13 a14) T n X 0 a (a + 1) (a + 2) v5 v6 (nI many) v8 (nI m) (nI b) (nI many) (nI u) 1 s0 s1 (nI u) (a + 2) = f_L_law_L300 F k77 fu (uai T (a + 2) u (nI (abA X m b ab u))) n X 0 a (a + 1) (a + 2) v5 v6 (nI many) v8 (nI m) (nI b) (nI many) (nI (u + 1)) := by
        intro T ct s0 s1 h1 h2 hl
        have c2 : CS (uai T (a + 2) u (nI (abA X m b ab u))) n a N B := ct.uai (Or.inr (Or.inr rfl))
        have ns : ¬ stN N many u = -1 := by rw [q1]; decide
        unfold f_L_law_L383
        rw [hl, cki_nI (by omega) (by omega), nI_clamp (by omega), h2, lt_eq, if_neg one, a_state c2.fx c2.cl h7 (by omega) ns, ob_some]
        simp only [lt_eq, sm_r]
        rw [q1, if_neg (fun y => y rfl), a_classOf c2.fx c2.cl h7 (by omega) ns, ob_some]
        simp only [sm_r]
        rw [q2, hc u (by omega), e_special hX hm, ob_some]
        simp only []
        have last : ∀ s0, s0 = clI X m u → f_L_law_L433 F k77 (fun a0 a1 a2 a3 a4 a5 a6 a7 a8 a9 a10 a11 a12 a13 a14 => f_L_law_L300 F k77 fu a0 a1 a2 a3 a4 a5 a6 a7 a8 a9 a10 a11 a12 a13 a14) (uai T (a + 2) u (nI (abA X m b ab u))) n X 0 a (a + 1) (a + 2) v5 v6 (nI many) v8 (nI m) (nI b) (nI many) (nI u) s0 (clI X m u) = f_L_law_L300 F k77 fu (uai T (a + 2) u (nI (abA X m b ab u))) n X 0 a (a + 1) (a + 2) v5 v6 (nI many) v8 (nI m) (nI b) (nI many) (nI (u + 1)) := by
          intro s0 hs
          unfold f_L_law_L433
          rw [if_neg (fun y => y hs.symm), a_entered c2.fx c2.cl h7 (by omega) ns, ob_some]
          simp only [lt_eq, sm_r]
          rw [q3, if_pos rfl]
          unfold f_L_law_L449
          rw [lt_eq, nI_1]
        by_cases y : spX X m = 0
        · have es : spI X m = -1 := if_pos y
          rw [es, if_neg (by decide), e_classOf hX (by omega), ob_some]
          simp only []
          exact last _ (by unfold clI; rw [if_pos es])
        · have es : spI X m = nI (spX X m - 1) := if_neg y
          have sb := spX_b X m
          have cb := clX_b X
          rw [if_pos (show (0 : Int32) ≤ spI X m by rw [es]; exact nI_pos' (by omega)), e_special hX hm, ob_some]
          simp only []
          refine last _ ?_
          unfold clI
          rw [if_neg (show ¬ spI X m = -1 by rw [es]; exact nI_nm (by omega))]
      by_cases y : abX X m
      · have eA : abA X m b ab u = ab u + 1 := pif_t ⟨z, y⟩
        refine fin _ rfl ?_
        conv => lhs; unfold f_L_law_L300
        rw [e_usersL hX, ob_some]
        simp only [lt_eq]
        rw [if_neg (nI_ge (by omega) (by omega)), e_recipients hX hm, ob_some]
        simp only []
        rw [rd_I, if_neg (fun t => t (tb.mpr zt))]
        unfold f_L_law_L334
        rw [l1, cki_nI (by omega) (by omega), if_neg one, e_size hX hm (by omega), ob_some]
        simp only [lt_eq]
        unfold f_L_law_L356
        rw [l1, cki_nI (by omega) (by omega), nI_clamp (by omega), av.2.1 u (by omega), hU, nI_add, ← eU, lt_eq]
        rw [show ln (uai S (a + 1) u (nI (usA X m b us u))) (a + 2) = 3 from l2, cki_nI (by omega) (by omega), if_neg one, e_hasAb hX hm (by omega), ob_some]
        simp only [lt_eq]
        rw [pI_t y, if_neg one, e12, av.2.2 u (by omega), hA]
        exact chk _ (c.uai (Or.inr (Or.inl rfl))) 1 (nI (ab u)) rfl (by rw [nI_1, eA]) l2
      · have eA : abA X m b ab u = ab u := pif_f (fun t => y t.2)
        refine fin _ rfl ?_
        conv => lhs; unfold f_L_law_L300
        rw [e_usersL hX, ob_some]
        simp only [lt_eq]
        rw [if_neg (nI_ge (by omega) (by omega)), e_recipients hX hm, ob_some]
        simp only []
        rw [rd_I, if_neg (fun t => t (tb.mpr zt))]
        unfold f_L_law_L334
        rw [l1, cki_nI (by omega) (by omega), if_neg one, e_size hX hm (by omega), ob_some]
        simp only [lt_eq]
        unfold f_L_law_L356
        rw [l1, cki_nI (by omega) (by omega), nI_clamp (by omega), av.2.1 u (by omega), hU, nI_add, ← eU, lt_eq]
        rw [show ln (uai S (a + 1) u (nI (usA X m b us u))) (a + 2) = 3 from l2, cki_nI (by omega) (by omega), if_neg one, e_hasAb hX hm (by omega), ob_some]
        simp only [lt_eq]
        rw [pI_f y, if_pos rfl, e12, av.2.2 u (by omega), hA]
        unfold f_L_law_L382
        exact chk _ (c.uai (Or.inr (Or.inl rfl))) 0 (nI (ab u)) rfl (by rw [eA, show (0 : Int32) = nI 0 from rfl, nI_add, Nat.add_zero]) l2
    · have zt : ¬ (reX X m &&& (1023 ^^^ b)).testBit u = true := z
      have eU : usA X m b us u = us u := pif_f z
      have eA : abA X m b ab u = ab u := pif_f (fun t => z t.1)
      have z0 : ∀ k, nI k + (0 : Int32) = nI k := fun k => by rw [show (0 : Int32) = nI 0 from rfl, nI_add, Nat.add_zero]
      refine fin _ rfl ?_
      conv => lhs; unfold f_L_law_L300
      rw [e_usersL hX, ob_some]
      simp only [lt_eq]
      rw [if_neg (nI_ge (by omega) (by omega)), e_recipients hX hm, ob_some]
      simp only []
      rw [rd_I, if_pos (fun t => zt (tb.mp t))]
      unfold f_L_law_L334
      rw [l1, cki_nI (by omega) (by omega), if_pos rfl]
      unfold f_L_law_L356
      rw [l1, cki_nI (by omega) (by omega), nI_clamp (by omega), av.2.1 u (by omega), hU, z0, ← eU, lt_eq]
      rw [show ln (uai S (a + 1) u (nI (usA X m b us u))) (a + 2) = 3 from l2, cki_nI (by omega) (by omega), if_pos rfl]
      unfold f_L_law_L382 f_L_law_L383
      rw [show ln (uai S (a + 1) u (nI (usA X m b us u))) (a + 2) = 3 from l2, cki_nI (by omega) (by omega), nI_clamp (by omega), e12, av.2.2 u (by omega), hA, z0, lt_eq, if_pos rfl, ← eA]
      unfold f_L_law_L449
      rw [lt_eq, nI_1]
end Us6
