/-! a part's bytes are copied into a new object -/
theorem si_nob (S : St) (n f i : Nat) : si (nob S n) f i = if i = n then 0 else si S f i := rfl
theorem sr_nob (S : St) (n f i : Nat) : sr (nob S n) f i = if i = n then none else sr S f i := rfl
theorem ai_nob (S : St) (n : Nat) : ai (nob S n) = ai S := rfl
theorem al_nob (S : St) (n : Nat) : al (nob S n) = al S := rfl
theorem ar_nob (S : St) (n i : Nat) : ar (nob S n) i = if i = n then (fun _ => none) else ar S i := rfl
theorem ln_nob (S : St) (n : Nat) : ln (nob S n) = ln S := rfl
theorem si_nar (S : St) (n l : Nat) : si (nar S n l) = si S := rfl
theorem sr_nar (S : St) (n l : Nat) : sr (nar S n l) = sr S := rfl
theorem ai_nar (S : St) (n l i : Nat) : ai (nar S n l) i = if i = n then (fun _ => 0) else ai S i := rfl
theorem al_nar (S : St) (n l i : Nat) : al (nar S n l) i = if i = n then (fun _ => 0) else al S i := rfl
theorem ar_nar (S : St) (n l i : Nat) : ar (nar S n l) i = if i = n then (fun _ => none) else ar S i := rfl
theorem ln_nar (S : St) (n l i : Nat) : ln (nar S n l) i = if i = n then l else ln S i := rfl
theorem SameO.nob {S : St} {n i : Nat} (h : ¬ i = n) : SameO S (nob S n) i := ⟨fun f => by rw [si_nob, if_neg h], fun f => by rw [sr_nob, if_neg h], rfl, rfl, by rw [ar_nob, if_neg h], rfl⟩
theorem SameO.nar {S : St} {n l i : Nat} (h : ¬ i = n) : SameO S (nar S n l) i := ⟨fun _ => rfl, fun _ => rfl, by rw [ai_nar, if_neg h], by rw [al_nar, if_neg h], by rw [ar_nar, if_neg h], by rw [ln_nar, if_neg h]⟩
theorem FxF.same {S T : St} (h : FxF S) (e : ∀ i, i < 197 → SameO S T i) : FxF T := h.agr (fun f i _ hi => (e i hi).2.1 f) (fun i hi => (e i hi).2.2.2.2.2) (e 69 (by omega)).2.2.2.2.1
theorem spL_le2 : ∀ q ∈ spL, q.1 ≤ 20 := by decide
theorem SpF.same {S T : St} {p : Nat} (h : SpF S p) (e : ∀ i, p ≤ i → i ≤ p + 20 → SameO S T i) : SpF T p := ⟨fun q hq => by rw [(e _ (by omega) (by have := spR_le q hq; omega)).2.1]; exact h.1 q hq, fun q hq => by rw [(e _ (by omega) (by have := spL_le2 q hq; omega)).2.2.2.2.2]; exact h.2 q hq⟩
section Cy
variable {F : Nat} {S : St} {f : Nat → Int32} {L : Nat}
theorem i8_255 {a : Int32} (h : a.toInt8.toInt32 = a) : (Int32.toInt8 (a &&& 255).toInt8.toInt32).toInt32 = a := by
  obtain ⟨m, m1, m2⟩ := i8_ex a h
  have e : (a &&& 255).toInt8.toInt32 = a := by
    rw [m2]
    exact and255a m m1
  rw [e, h]
theorem e_addRange {o a b : Nat} (hi : Inp S f L) (hx : FxF S) (ho : 197 ≤ o) (h0 : sr S 0 o = some (o + 1)) (hl : ln S (o + 1) = b - a) (hs : si S 1 o = 0) (hab : a ≤ b) (hb : b ≤ L) (hF : 10000 ≤ F) : ∃ T, f_X0_addRange F S o 20 (nI a) (nI b) = some T ∧ (∀ i, ¬ i = o → ¬ i = o + 1 → SameO S T i) ∧ (∀ g, sr T g o = sr S g o) ∧ sr T 0 o = some (o + 1) ∧ (∀ g, ¬ g = 1 → si T g o = si S g o) ∧ ln T = ln S ∧ si T 1 o = nI (b - a) ∧ ∀ k, k < b - a → ai T (o + 1) k = f (a + k) := by
  have hL := hi.1
  have loop : ∀ d k fu T, k + d = b - a → d < fu → (∀ i, ¬ i = o → ¬ i = o + 1 → SameO S T i) → (∀ g, sr T g o = sr S g o) → (∀ g, ¬ g = 1 → si T g o = si S g o) → ln T = ln S → si T 1 o = nI k → (∀ x, x < k → ai T (o + 1) x = f (a + x)) → ∃ T', f_X0_addRange_L3 F fu T o 20 (nI b) (nI (a + k)) = some T' ∧ (∀ i, ¬ i = o → ¬ i = o + 1 → SameO S T' i) ∧ (∀ g, sr T' g o = sr S g o) ∧ sr T' 0 o = some (o + 1) ∧ (∀ g, ¬ g = 1 → si T' g o = si S g o) ∧ ln T' = ln S ∧ si T' 1 o = nI (b - a) ∧ ∀ k, k < b - a → ai T' (o + 1) k = f (a + k) := by
    intro d
    induction d with
    | zero =>
      intro k fu T hk hfu m1 m2 m3 m4 m5 m6
      obtain ⟨fu, rfl⟩ : ∃ f', fu = f' + 1 := ⟨fu - 1, by omega⟩
      have : k = b - a := by omega
      subst this
      refine ⟨T, ?_, m1, m2, by rw [m2]; exact h0, m3, m4, m5, m6⟩
      unfold f_X0_addRange_L3
      rw [if_pos (nI_le (by omega) (by omega))]
    | succ d ih =>
      intro k fu T hk hfu m1 m2 m3 m4 m5 m6
      obtain ⟨fu, rfl⟩ : ∃ f', fu = f' + 1 := ⟨fu - 1, by omega⟩
      have hxT : FxF T := hx.same (fun i hi => m1 i (by omega) (by omega))
      have hiT : Inp T f L := ⟨hL, ((m1 20 (by omega) (by omega)).1 1).trans hi.2.1, fun i hi' => by rw [(m1 21 (by omega) (by omega)).row]; exact hi.2.2 i hi'⟩
      have hT0 : sr T 0 o = some (o + 1) := by rw [m2]; exact h0
      have lT : ln T (o + 1) = b - a := by rw [m4]; exact hl
      have i8f := (hi.2.2 (a + k) (by omega)).2
      obtain ⟨T1, hT1⟩ : ∃ T1, T1 = ui (uai T (o + 1) k (f (a + k))) 1 o (nI (k + 1)) := ⟨_, rfl⟩
      have s1 : ∀ i, ¬ i = o → ¬ i = o + 1 → SameO T T1 i := fun i p q => by rw [hT1]; exact (SameO.uai _ q).tr (SameO.ui _ p)
      obtain ⟨T', t1, t2⟩ := ih (k + 1) fu T1 (by omega) (by omega) (fun i p q => (m1 i p q).tr (s1 i p q)) (fun g => by rw [hT1]; exact m2 g) (fun g hg => by rw [hT1, si_ui, if_neg (fun z => hg z.1)]; exact m3 g hg) (by rw [hT1]; exact m4) (by rw [hT1, si_ui, if_pos ⟨rfl, rfl⟩]) (fun x hx => by
        rw [hT1, ai_ui, ai_uaiE]
        by_cases z : x = k
        · rw [z, upd_e]
        · rw [upd_n z]; exact m6 x (by omega))
      refine ⟨T', ?_, t2⟩
      rw [← t1]
      conv => lhs; unfold f_X0_addRange_L3
      rw [if_neg (nI_ge (by omega) (by omega)), inB hxT hiT (by omega), ob_some]
      simp only [lt_eq]
      unfold f_X0_add
      rw [m5, if_neg (nI_pos (by omega)), hT0, ob_some, lT, if_neg (nI_ge (by omega) (by omega)), ob_some, lT, cki_nI (by omega) (by omega), nI_clamp (by omega), i8_255 i8f]
      simp only [lt_eq]
      rw [si_uai, m5, nI_1, ← hT1, ob_some, nI_1, Nat.add_assoc]
  unfold f_X0_addRange
  exact loop (b - a) 0 F S (by omega) (by omega) (fun i _ _ => SameO.rf S i) (fun _ => rfl) (fun _ _ => rfl) rfl hs (fun x hx => by omega)
theorem e_copyOf {n j : Nat} (hi : Inp S f L) (hx : FxF S) (c : Cut S f L) (hg : gdC f L) (hn : 197 ≤ n) (hj : j < kC f L) (hF : 10000 ≤ F) : ∃ T, f_X1_copyOfPlace F S n 24 (nI j) = some (some n, T, n + 2) ∧ (∀ i, ¬ i = n → ¬ i = n + 1 → SameO S T i) ∧ sr T 0 n = some (n + 1) ∧ ln T (n + 1) = lC f L j ∧ si T 1 n = nI (lC f L j) ∧ ∀ k, k < lC f L j → ai T (n + 1) k = f (cC f L j + k) := by
  have g1 := hg.1
  obtain ⟨m1, m2⟩ := hg.2 j hj
  obtain ⟨q1, q2, -, -⟩ := cC_lt (f := f) (L := L) hj
  have q5 := cC_le (f := f) (L := L) hj
  have lj : cC f L (j + 1) - 1 = cC f L j + lC f L j := by unfold lC at m1 ⊢; omega
  obtain ⟨S1, hS1⟩ : ∃ S1, S1 = nob S n := ⟨_, rfl⟩
  have s1 : ∀ i, ¬ i = n → SameO S S1 i := fun i h => by rw [hS1]; exact SameO.nob h
  have x1 : FxF S1 := hx.same (fun i hi => s1 i (by omega))
  have c1 : Cut S1 f L := ⟨((s1 24 (by omega)).1 103).trans c.1, fun k hk => by rw [(s1 25 (by omega)).row, (s1 26 (by omega)).row]; exact c.2 k hk⟩
  obtain ⟨S2, hS2⟩ : ∃ S2, S2 = ur (nar S1 (n + 1) (lC f L j)) 0 n (some (n + 1)) := ⟨_, rfl⟩
  have s2 : ∀ i, ¬ i = n → ¬ i = n + 1 → SameO S1 S2 i := fun i h h2 => by rw [hS2]; exact (SameO.nar h2).tr (SameO.ur _ h)
  have x2 : FxF S2 := x1.same (fun i hi => s2 i (by omega) (by omega))
  have s12 : ∀ i, ¬ i = n → ¬ i = n + 1 → SameO S S2 i := fun i h h2 => (s1 i h).tr (s2 i h h2)
  have i2 : Inp S2 f L := ⟨hi.1, ((s12 20 (by omega) (by omega)).1 1).trans hi.2.1, fun i hi' => by rw [(s12 21 (by omega) (by omega)).row]; exact hi.2.2 i hi'⟩
  have cc2 := c.2 j hj
  have a25 : ai S2 25 j = nI (cC f L j) := by rw [(s12 25 (by omega) (by omega)).row]; exact cc2.1
  have a26 : ai S2 26 j = nI (cC f L (j + 1) - 1) := by rw [(s12 26 (by omega) (by omega)).row]; exact cc2.2
  obtain ⟨T, t1, t2, t3, t4, t5, t6, t7, t8⟩ := e_addRange (F := F) (o := n) (a := cC f L j) (b := cC f L (j + 1) - 1) i2 x2 hn (by rw [hS2, sr_ur, if_pos ⟨rfl, rfl⟩]) (by rw [hS2]; show ln (nar S1 (n + 1) (lC f L j)) (n + 1) = _; rw [ln_nar, if_pos rfl]; omega) (by rw [hS2]; show si (nar S1 (n + 1) (lC f L j)) 1 n = 0; rw [si_nar, hS1, si_nob, if_pos rfl]) (by omega) (by omega) hF
  have e : cC f L (j + 1) - 1 - cC f L j = lC f L j := rfl
  rw [e] at t7 t8
  refine ⟨T, ?_, fun i h h2 => (s12 i h h2).tr (t2 i h h2), t4, by rw [t6, hS2]; show ln (nar S1 (n + 1) (lC f L j)) (n + 1) = _; rw [ln_nar, if_pos rfl], t7, t8⟩
  unfold f_X1_copyOfPlace
  rw [← hS1, lt_eq, lt_eq, e_sizeAt x1 c1 hg hj, ob_some]
  simp only [lt_eq]
  unfold f_X0_init
  have mx : (if (0 : Int32) < nI (lC f L j) then nI (lC f L j) else (0 : Int32)) = nI (lC f L j) := by rw [if_pos (show (0 : Int32) < nI (lC f L j) from nI_lt (a := 0) (by omega) (by omega))]
  rw [mx, nI_clamp (by omega), ck_t ⟨nI_pos (by omega), by omega⟩]
  simp only [lt_eq]
  rw [← hS2, ob_some]
  simp only [lt_eq]
  rw [x2.r100_24, ob_some, x2.r101_24, ob_some, e_at (by rw [x2.l25]; omega) (by rw [x2.l25]; omega), ob_some, a25]
  simp only [lt_eq]
  rw [x2.r102_24, ob_some, e_at (by rw [x2.l26]; omega) (by rw [x2.l26]; omega), ob_some, a26]
  simp only [lt_eq]
  rw [t1, ob_some]
end Cy
