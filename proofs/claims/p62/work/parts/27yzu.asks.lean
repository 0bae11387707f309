section Ak
variable {F : Nat} {S : St} {n p n0 m K : Nat} {X Y : Nat → Int32} {pj : Nat → Nat}
theorem p_hasWord (hs : SpF S p) (P : Pt S n p X Y) (s5 : si S 705 p = nI (m + 1)) (hm : m < 120) (h2 : ar S (p + 2) m = some n0) (r0 : sr S 303 n0 = some (n0 + 1)) (l0 : ln S (n0 + 1) = K) (hK : K ≤ 4) (row : ∀ i, i < K → ai S (n0 + 1) i = nI (pj i) ∧ pj i < kN X 8) {c : Nat} {wl : Nat → Int32} (hc : 1 ≤ c) (hc2 : c ≤ 10) (hw : ∀ k, k < c → letB (wl k)) (hF : 1000 ≤ F) :
    f_X8_hasWord F S p (nI m) (lN (wv wl c)) = some (pI (∃ i k, i < K ∧ atB X Y (pj i) wl c k), S) := by
  have mAt : f_X8_messageAt F S p (nI m) = some (some n0, S) := by
    unfold f_X8_messageAt f_X8_messageAt_L26
    rw [if_neg (nI_pos (by omega)), s5, if_neg (nI_ge (by omega) (by omega)), hs.r706_0, ob_some, hs.l2, if_neg (nI_ge (by omega) (by omega)), if_neg (by decide), ob_some, hs.l2, cki_nI (by omega) (by omega), nI_clamp (by omega), h2, os_s]
    rfl
  have b8 := P.2.1
  have atq : ∀ q, q < kN X 8 → ∃ jj, f_X9_bytesOf F S (p + 6) (nI q) = some (some jj, S) ∧ f_X0_hasWord F S jj (lN (wv wl c)) = some (pI (∃ k, atB X Y q wl c k), S) := by
    intro q hq
    obtain ⟨jj, g1, g2, g3, g4, g5, g6⟩ := p_bytesOf (F := F) hs P hq
    obtain ⟨-, -, -, w5, w2, b⟩ := P.2.2 q hq
    refine ⟨jj, g1, ?_⟩
    rw [e_hasW (f := fun k => Y (200 * q + k)) (w := wl) g3 g5 (by omega) (by omega) (fun k hk => ⟨g6 k hk, w5 k hk⟩) hc hc2 hw (by omega), pI_c]
    rw [hit_at hw]
    unfold atB
    constructor
    · rintro ⟨k, h1, h2, h3, h4⟩
      refine ⟨k, h1, fun i hi => by rw [Nat.add_assoc]; exact h2 i hi, ?_, by rw [Nat.add_assoc]; exact h4⟩
      by_cases z : k = 0
      · exact Or.inl z
      · refine Or.inr ?_
        rw [show 200 * q + k - 1 = 200 * q + (k - 1) by omega]
        rcases h3 with y | y
        · exact absurd y z
        · exact y
    · rintro ⟨k, h1, h2, h3, h4⟩
      refine ⟨k, h1, fun i hi => by have := h2 i hi; rw [Nat.add_assoc] at this; exact this, ?_, by rw [Nat.add_assoc] at h4; exact h4⟩
      by_cases z : k = 0
      · exact Or.inl z
      · refine Or.inr ?_
        rw [show 200 * q + k - 1 = 200 * q + (k - 1) by omega] at h3
        rcases h3 with y | y
        · exact absurd y z
        · exact y
  have g : ∀ d i fu, i + d = K → d < fu → f_X8_hasWord_L18 F fu S p (lN (wv wl c)) (n0 + 1) (nI K) (nI i) = some (pI (∃ i' k, i ≤ i' ∧ i' < K ∧ atB X Y (pj i') wl c k), S) := by
    intro d
    induction d with
    | zero =>
      intro i fu hi hfu
      obtain ⟨fu, rfl⟩ : ∃ f', fu = f' + 1 := ⟨fu - 1, by omega⟩
      unfold f_X8_hasWord_L18
      rw [if_pos (nI_le (by omega) (by omega)), pI_f]
      rintro ⟨i', k, h1, h2, -⟩
      omega
    | succ d ih =>
      intro i fu hi hfu
      obtain ⟨fu, rfl⟩ : ∃ f', fu = f' + 1 := ⟨fu - 1, by omega⟩
      obtain ⟨q7, q6⟩ := row i (by omega)
      obtain ⟨jj, a1, a2⟩ := atq (pj i) q6
      unfold f_X8_hasWord_L18
      rw [if_neg (nI_ge (by omega) (by omega)), l0, cki_nI (by omega) (by omega), nI_clamp (by omega), q7, lt_eq, hs.r710_0, ob_some, a1, ob_some]
      simp only [lt_eq, ob_some]
      rw [a2, ob_some]
      simp only [pI_e0]
      by_cases z : ∃ k, atB X Y (pj i) wl c k
      · obtain ⟨k, z⟩ := z
        rw [pif_t ⟨k, z⟩, pI_t ⟨i, k, Nat.le_refl _, by omega, z⟩]
      · rw [pif_f z, nI_1, ih (i + 1) fu (by omega) (by omega), pI_c]
        constructor
        · rintro ⟨i', k, h1, h2⟩; exact ⟨i', k, by omega, h2⟩
        · rintro ⟨i', k, h1, h2, h3⟩
          refine ⟨i', k, ?_, h2, h3⟩
          by_cases y : i' = i
          · subst y; exact absurd ⟨k, h3⟩ z
          · omega
  unfold f_X8_hasWord
  rw [mAt, ob_some]
  simp only [lt_eq, ob_some]
  rw [r0, ob_some, l0, show (0 : Int32) = nI 0 from rfl, g K 0 F (by omega) (by omega), pI_c]
  exact ⟨fun ⟨i, k, _, h2, h3⟩ => ⟨i, k, h2, h3⟩, fun ⟨i, k, h2, h3⟩ => ⟨i, k, Nat.zero_le _, h2, h3⟩⟩
theorem e_asking {r : Nat} {H B : Nat → Int32} (hr : sr S 700 p = some r) (R : CR S r H) (wh : wH H) (n6 : isCnt H 6 6) (s1 : si S 701 p = H 2) (n2 : isCnt H 2 20000) (hd : H (332 + 7 * m) = H 2)
    (hW : ∀ wl c, 1 ≤ c → c ≤ 10 → (∀ k, k < c → letB (wl k)) → f_X8_hasWord F S p (nI m) (lN (wv wl c)) = some (pI (contB H B m wl c), S)) (hF : 1000 ≤ F) :
    ∃ msk : Nat, f_X8_holdsAskingFor F S p (nI m) = some (nI msk, S) ∧ msk < 64 ∧ ∀ h, h < 6 → (msk.testBit h = true ↔ h < kN H 6 ∧ asksN H B m h) := by
  obtain ⟨ru, ⟨-, -, -, -, -, c6⟩, -, -, -, rh⟩ := R
  have b6 := n6.2
  have e6 : si S 401 (r + 13) = nI (kN H 6) := c6.trans n6.1
  have loop : ∀ d i fu msk, i + d = kN H 6 → d < fu → msk < 64 → (∀ h, h < 6 → (msk.testBit h = true ↔ h < i ∧ asksN H B m h)) → ∃ msk' : Nat, f_X8_holdsAskingFor_L4 F fu S p (nI m) (nI msk) (nI i) = some (nI msk', S) ∧ msk' < 64 ∧ ∀ h, h < 6 → (msk'.testBit h = true ↔ h < kN H 6 ∧ asksN H B m h) := by
    intro d
    induction d with
    | zero =>
      intro i fu msk hi hfu h64 bits
      obtain ⟨fu, rfl⟩ : ∃ f', fu = f' + 1 := ⟨fu - 1, by omega⟩
      obtain rfl : i = kN H 6 := by omega
      refine ⟨msk, ?_, h64, bits⟩
      unfold f_X8_holdsAskingFor_L4
      rw [hr, ob_some, ru.r611_0, ob_some, e6, if_pos (nI_le (Nat.le_refl _) (by omega))]
    | succ d ih =>
      intro i fu msk hi hfu h64 bits
      obtain ⟨fu, rfl⟩ : ∃ f', fu = f' + 1 := ⟨fu - 1, by omega⟩
      have hi6 : i < kN H 6 := by omega
      obtain ⟨w1, w2, w3, w4, w5, w6, w7⟩ := wh i hi6
      obtain ⟨h1, h2, h3, h4, -⟩ := rh i hi6
      obtain ⟨c, hc⟩ : ∃ c, c = kN H (209 + 21 * i) := ⟨_, rfl⟩
      have wz : H (209 + 21 * i) = 0 ↔ c = 0 := by
        rw [w6.1, ← hc]
        exact nI_eq (b := 0) (by have := w6.2; omega) (by omega)
      rw [← hc] at w7 h4
      have c10 : c ≤ 10 := by rw [hc]; exact w6.2
      have wd : wdN H (210 + 21 * i) c = lN (wv (fun k => H (210 + 21 * i + k)) c) := wdN_eq (fun k hk => w7 k hk)
      have asks : asksN H B m i ↔ H (206 + 21 * i) ≤ H 2 ∧ H 2 ≤ H (207 + 21 * i) ∧ (c = 0 ∨ contB H B m (fun k => H (210 + 21 * i + k)) c) := by
        unfold asksN
        rw [hd, wz, hc]
      have no : ¬ asksN H B m i → ∃ msk' : Nat, f_X8_holdsAskingFor_L99 F (fun a0 a1 a2 a3 a4 => f_X8_holdsAskingFor_L4 F fu a0 a1 a2 a3 a4) S p (nI m) (nI msk) (nI i) = some (nI msk', S) ∧ msk' < 64 ∧ ∀ h, h < 6 → (msk'.testBit h = true ↔ h < kN H 6 ∧ asksN H B m h) := by
        intro na
        unfold f_X8_holdsAskingFor_L99
        rw [lt_eq, nI_1]
        exact ih (i + 1) fu msk (by omega) (by omega) h64 (fun h hh => (bits h hh).trans ⟨fun y => ⟨by omega, y.2⟩, fun y => ⟨by
          by_cases e : h = i
          · rw [e] at y; exact absurd y.2 na
          · have := y.1; omega, y.2⟩⟩)
      have yes : asksN H B m i → ∃ msk' : Nat, f_X8_holdsAskingFor_L93 F (fun a0 a1 a2 a3 a4 => f_X8_holdsAskingFor_L4 F fu a0 a1 a2 a3 a4) S p (nI m) (nI msk) (nI i) = some (nI msk', S) ∧ msk' < 64 ∧ ∀ h, h < 6 → (msk'.testBit h = true ↔ h < kN H 6 ∧ asksN H B m h) := by
        intro ya
        obtain ⟨o1, o2, o3⟩ := bits_on h64 (show i < 6 by omega)
        unfold f_X8_holdsAskingFor_L93 f_X8_holdsAskingFor_L99
        rw [lt_eq, lt_eq, nI_1, o1]
        exact ih (i + 1) fu _ (by omega) (by omega) o2 (fun h hh => (o3 h hh).trans ⟨fun y => by
          rcases y with y | y
          · rw [y]; exact ⟨by omega, ya⟩
          · have := (bits h hh).mp y
            exact ⟨by omega, this.2⟩, fun y => by
          by_cases e : h = i
          · exact Or.inl e
          · exact Or.inr ((bits h hh).mpr ⟨by omega, y.2⟩)⟩)
      have word : f_X7_wordOfHold F S r (nI i) = some (lN (wv (fun k => H (210 + 21 * i + k)) c), S) := by
        unfold f_X7_wordOfHold
        rw [if_neg (nI_pos (by omega)), ru.r615_0, ob_some, ru.l18, if_neg (nI_ge (by omega) (by omega)), ob_some, ru.l18, cki_nI (by omega) (by omega), nI_clamp (by omega), h4, wd]
      have tail : ∀ o : Bool, (o = true ↔ H (206 + 21 * i) ≤ H 2 ∧ H 2 ≤ H (207 + 21 * i)) → ∃ msk' : Nat, f_X8_holdsAskingFor_L69 F (fun a0 a1 a2 a3 a4 => f_X8_holdsAskingFor_L4 F fu a0 a1 a2 a3 a4) S p (nI m) (nI msk) (nI i) (lN (wv (fun k => H (210 + 21 * i + k)) c)) (if o = true then 1 else 0) = some (nI msk', S) ∧ msk' < 64 ∧ ∀ h, h < 6 → (msk'.testBit h = true ↔ h < kN H 6 ∧ asksN H B m h) := by
        intro o ho
        unfold f_X8_holdsAskingFor_L69
        by_cases z : o = true
        rotate_left
        · rw [if_neg z, if_pos rfl]
          exact no (fun y => z (ho.mpr ⟨(asks.mp y).1, (asks.mp y).2.1⟩))
        rw [if_pos z, if_neg (show ¬ (1 : Int32) = 0 by decide)]
        obtain ⟨z1, z2⟩ := ho.mp z
        by_cases y : c = 0
        · rw [y, wv_0, if_pos (by rfl)]
          exact yes (asks.mpr ⟨z1, z2, Or.inl y⟩)
        · have lp : ¬ lg_cmp (lN (wv (fun k => H (210 + 21 * i + k)) c)) 0 = 0 := fun t => by
            have e0 := (lg_cmp_eq _ _).mp t
            have ge := wv_ge (f := fun k => H (210 + 21 * i + k)) (c := c - 1) (fun k hk => w7 k (by omega))
            have b := wv_b (f := fun k => H (210 + 21 * i + k)) c10 (fun k hk => w7 k hk)
            rw [show c - 1 + 1 = c by omega] at ge
            have e1 : wv (fun k => H (210 + 21 * i + k)) c = 0 := (lN_inj (by omega) (by omega)).mp e0
            have := Nat.pow_pos (n := c - 1) (show 0 < 27 by omega)
            omega
          rw [if_neg lp, hW _ c (by omega) c10 (fun k hk => w7 k hk), ob_some]
          simp only [lt_eq]
          by_cases u : contB H B m (fun k => H (210 + 21 * i + k)) c
          · rw [pI_t u, if_neg (show ¬ (1 : Int32) = 0 by decide)]
            exact yes (asks.mpr ⟨z1, z2, Or.inr u⟩)
          · rw [pI_f u, if_pos rfl]
            exact no (fun t => by rcases (asks.mp t).2.2 with a | a; exact y a; exact u a)
      have l16 := ru.l16
      have l17 := ru.l17
      unfold f_X8_holdsAskingFor_L4 f_X8_holdsAskingFor_L68
      rw [hr, ob_some, ru.r611_0, ob_some, e6, if_neg (nI_ge (by omega) (by omega)), ob_some, word, ob_some]
      simp only [lt_eq]
      rw [hr, ob_some, ru.r613_0, ob_some, e_at (by omega) (by omega), ob_some, h2]
      simp only [lt_eq]
      have q2 : H 2 = nI (kN H 2) := n2.1
      have b2 : kN H 2 ≤ 20000 := n2.2
      have fr : H (206 + 21 * i) = nI (kN H (206 + 21 * i)) := w3.1
      have fb : kN H (206 + 21 * i) ≤ 9999 := w3.2
      have tr : H (207 + 21 * i) = nI (kN H (207 + 21 * i)) := w4.1
      have tb : kN H (207 + 21 * i) ≤ 20000 := w4.2
      rw [s1]
      rw [q2, fr, tr] at tail
      rw [q2, fr]
      by_cases z1 : kN H 2 < kN H (206 + 21 * i)
      · rw [if_pos (nI_lt z1 (by omega))]
        exact tail false ⟨fun t => (by cases t), fun t => absurd t.1 (nI_ge z1 (by omega))⟩
      · rw [if_neg (nI_nlt (by omega) (by omega)), hr, ob_some, ru.r614_0, ob_some, e_at (by omega) (by omega), ob_some]
        simp only [lt_eq]
        rcases h3 with h3 | ⟨h3, h3'⟩
        · rw [h3, tr]
          by_cases z2 : kN H (207 + 21 * i) < kN H 2
          · rw [if_pos (nI_lt z2 (by omega))]
            exact tail false ⟨fun t => (by cases t), fun t => absurd t.2 (nI_ge z2 (by omega))⟩
          · rw [if_neg (nI_nlt (by omega) (by omega))]
            exact tail true ⟨fun _ => ⟨nI_le (by omega) (by omega), nI_le (by omega) (by omega)⟩, fun _ => rfl⟩
        · have t2 : kN H (207 + 21 * i) = 20000 := by unfold kN; rw [h3']; rfl
          rw [h3, if_neg (show ¬ (1000000000 : Int32) < nI (kN H 2) from nI_nlt (a := 1000000000) (by omega) (by omega))]
          exact tail true ⟨fun _ => ⟨nI_le (by omega) (by omega), nI_le (by omega) (by omega)⟩, fun _ => rfl⟩
  exact loop (kN H 6) 0 F 0 (by omega) (by omega) (by omega) (fun h hh => by
    rw [Nat.zero_testBit]
    exact ⟨fun y => (by cases y), fun y => absurd y.1 (Nat.not_lt_zero h)⟩)
theorem e_addRefs {r b : Nat} {H : Nat → Int32} {c v : Int32} (hs : SpF S p) (hr : sr S 700 p = some r) (hrd : ¬ r + 8 = p + 3 ∧ ¬ r + 8 = p + 4 ∧ ¬ r + 8 = p + 5) (R : CR S r H) (hb : b < 1024) (hm : m < 120) (sv : si S 701 p = v) (hF : 1000 ≤ F) :
    ∃ T, f_X8_addReferences F S p (nI m) (nI b) c = some T ∧ (∀ k, ¬ k = p + 3 → ¬ k = p + 4 → ¬ k = p + 5 → SameO S T k) ∧ sr T = sr S ∧ ln T = ln S ∧ si T = si S ∧
      (∀ u, u < 10 → ai T (p + 3) (10 * m + u) = pif (b.testBit u = true) 0 (-1) ∧ ai T (p + 4) (10 * m + u) = (if c = -1 then ai S (r + 8) u else c) ∧ ai T (p + 5) (10 * m + u) = v) ∧
      ∀ k, k < 10 * m → ai T (p + 3) k = ai S (p + 3) k ∧ ai T (p + 4) k = ai S (p + 4) k ∧ ai T (p + 5) k = ai S (p + 5) k := by
  have ru := R.1
  have loop : ∀ d u fu T, u + d = 10 → d < fu → (∀ k, ¬ k = p + 3 → ¬ k = p + 4 → ¬ k = p + 5 → SameO S T k) → sr T = sr S → ln T = ln S → si T = si S →
      (∀ x, x < u → ai T (p + 3) (10 * m + x) = pif (b.testBit x = true) 0 (-1) ∧ ai T (p + 4) (10 * m + x) = (if c = -1 then ai S (r + 8) x else c) ∧ ai T (p + 5) (10 * m + x) = v) →
      (∀ k, k < 10 * m → ai T (p + 3) k = ai S (p + 3) k ∧ ai T (p + 4) k = ai S (p + 4) k ∧ ai T (p + 5) k = ai S (p + 5) k) →
      ∃ T', f_X8_addReferences_L3 F fu T p (nI m) (nI b) c (nI u) = some T' ∧ (∀ k, ¬ k = p + 3 → ¬ k = p + 4 → ¬ k = p + 5 → SameO S T' k) ∧ sr T' = sr S ∧ ln T' = ln S ∧ si T' = si S ∧
      (∀ x, x < 10 → ai T' (p + 3) (10 * m + x) = pif (b.testBit x = true) 0 (-1) ∧ ai T' (p + 4) (10 * m + x) = (if c = -1 then ai S (r + 8) x else c) ∧ ai T' (p + 5) (10 * m + x) = v) ∧
      ∀ k, k < 10 * m → ai T' (p + 3) k = ai S (p + 3) k ∧ ai T' (p + 4) k = ai S (p + 4) k ∧ ai T' (p + 5) k = ai S (p + 5) k := by
    intro d
    induction d with
    | zero =>
      intro u fu T hu hfu a1 a2 a3 a4 a5 a6
      obtain ⟨fu, rfl⟩ : ∃ f', fu = f' + 1 := ⟨fu - 1, by omega⟩
      obtain rfl : u = 10 := by omega
      refine ⟨T, ?_, a1, a2, a3, a4, a5, a6⟩
      unfold f_X8_addReferences_L3
      rw [if_pos (show (10 : Int32) ≤ nI 10 by decide)]
    | succ d ih =>
      intro u fu T hu hfu a1 a2 a3 a4 a5 a6
      obtain ⟨fu, rfl⟩ : ∃ f', fu = f' + 1 := ⟨fu - 1, by omega⟩
      have hsT : SpF T p := ⟨fun q hq => by rw [a2]; exact hs.1 q hq, fun q hq => by rw [a3]; exact hs.2 q hq⟩
      obtain ⟨T1, hT1⟩ : ∃ T1, T1 = uai T (p + 3) (10 * m + u) (pif (b.testBit u = true) 0 (-1)) := ⟨_, rfl⟩
      obtain ⟨T2, hT2⟩ : ∃ T2, T2 = uai T1 (p + 4) (10 * m + u) (if c = -1 then ai S (r + 8) u else c) := ⟨_, rfl⟩
      obtain ⟨T3, hT3⟩ : ∃ T3, T3 = uai T2 (p + 5) (10 * m + u) v := ⟨_, rfl⟩
      have r3 : ai T3 (p + 3) = upd (ai T (p + 3)) (10 * m + u) (pif (b.testBit u = true) 0 (-1)) := by rw [hT3, ai_uaiN _ (by omega), hT2, ai_uaiN _ (by omega), hT1, ai_uaiE]
      have r4 : ai T3 (p + 4) = upd (ai T (p + 4)) (10 * m + u) (if c = -1 then ai S (r + 8) u else c) := by rw [hT3, ai_uaiN _ (by omega), hT2, ai_uaiE, hT1, ai_uaiN _ (by omega)]
      have r5 : ai T3 (p + 5) = upd (ai T (p + 5)) (10 * m + u) v := by rw [hT3, ai_uaiE, hT2, ai_uaiN _ (by omega), hT1, ai_uaiN _ (by omega)]
      obtain ⟨T', t1, t2⟩ := ih (u + 1) fu T3 (by omega) (by omega) (fun k x y z => (a1 k x y z).tr (by rw [hT3, hT2, hT1]; exact ((SameO.uai _ x).tr (SameO.uai _ y)).tr (SameO.uai _ z))) (by rw [hT3, hT2, hT1]; exact a2) (by rw [hT3, hT2, hT1]; exact a3) (by rw [hT3, hT2, hT1]; exact a4) (fun x hx => by
          rw [r3, r4, r5]
          by_cases y : x = u
          · rw [y, upd_e, upd_e, upd_e]; exact ⟨rfl, rfl, rfl⟩
          · rw [upd_n (by omega), upd_n (by omega), upd_n (by omega)]; exact a5 x (by omega)) (fun k hk => by
          rw [r3, r4, r5, upd_n (by omega), upd_n (by omega), upd_n (by omega)]; exact a6 k hk)
      refine ⟨T', ?_, t2⟩
      rw [← t1]
      conv => lhs; unfold f_X8_addReferences_L3
      have bit : ∀ (β : Type) (a b' : β), (if bI (b.testBit u = true) = 0 then a else b') = pif (b.testBit u = true) b' a := fun β a b' => bI_pif _ _ _
      have l3 := hsT.l3
      have l4 := hsT.l4
      have l5 := hsT.l5
      have t701 : si T2 701 p = v := by rw [hT2, hT1]; show si T 701 p = v; rw [a4]; exact sv
      have fin : ∀ s0 : Int32, s0 = pif (b.testBit u = true) 0 (-1) → f_X8_addReferences_L39 F (fun a0 a1 a2 a3 a4 a5 => f_X8_addReferences_L3 F fu a0 a1 a2 a3 a4 a5) T p (nI m) (nI b) c (nI u) (nI (10 * m + u)) s0 (nI (10 * m + u)) (p + 3) = f_X8_addReferences_L3 F fu T3 p (nI m) (nI b) c (nI (u + 1)) := by
        intro s0 e0
        unfold f_X8_addReferences_L39
        rw [e_put _ (by omega) (by omega), ob_some, e0, ← hT1]
        have s1 : sr T1 = sr S := by rw [hT1]; exact a2
        have ln1 : ln T1 = ln S := by rw [hT1]; exact a3
        have fin2 : f_X8_addReferences_L69 F (fun a0 a1 a2 a3 a4 a5 => f_X8_addReferences_L3 F fu a0 a1 a2 a3 a4 a5) T1 p (nI m) (nI b) c (nI u) (nI (10 * m + u)) (if c = -1 then ai S (r + 8) u else c) (nI (10 * m + u)) (p + 4) = f_X8_addReferences_L3 F fu T3 p (nI m) (nI b) c (nI (u + 1)) := by
          unfold f_X8_addReferences_L69
          have s2 : sr T2 = sr S := by rw [hT2]; exact s1
          have ln2 : ln T2 = ln S := by rw [hT2]; exact ln1
          have q4 : ln S (p + 4) = 1200 := hs.l4
          have q5 : ln S (p + 5) = 1200 := hs.l5
          rw [e_put _ (by rw [ln1]; omega) (by rw [ln1]; omega), ob_some, ← hT2, s2, hs.r709_0, ob_some, t701, e_put _ (by rw [ln2]; omega) (by rw [ln2]; omega), ob_some, ← hT3, lt_eq, nI_1]
        rw [s1, hs.r708_0, ob_some]
        by_cases z : c = -1
        · rw [if_neg (fun y => y z), hr, ob_some, ru.r607_0, ob_some]
          have l8 := ru.l8
          rw [e_at (by rw [ln1]; omega) (by rw [ln1]; omega), ob_some]
          simp only [lt_eq]
          have e8 : ai T1 (r + 8) u = ai S (r + 8) u := by
            rw [hT1, ai_uaiN _ (by omega)]
            rw [(a1 (r + 8) (by omega) (by omega) (by omega)).row]
          rw [e8]
          rw [if_pos z] at fin2
          exact fin2
        · rw [if_pos z]
          rw [if_neg z] at fin2
          exact fin2
      rw [if_neg (show ¬ (10 : Int32) ≤ nI u from nI_ge (b := 10) (by omega) (by omega)), show (10 : Int32) = nI 10 from rfl, nI_mul, nI_add, show m * 10 + u = 10 * m + u by omega]
      simp only [lt_eq]
      rw [hsT.r707_0, ob_some, e_hasBit F T hb (by omega), ob_some]
      simp only [lt_eq]
      by_cases z : b.testBit u = true
      · rw [bI_t z, if_neg (show ¬ (1 : Int32) = 0 by decide)]
        exact fin 0 (pif_t z).symm
      · rw [bI_f z, if_pos rfl]
        exact fin (-1) (pif_f z).symm
  unfold f_X8_addReferences
  exact loop 10 0 F S (by omega) (by omega) (fun k _ _ _ => SameO.rf S k) rfl rfl rfl (fun x hx => by omega) (fun k _ => ⟨rfl, rfl, rfl⟩)
end Ak
