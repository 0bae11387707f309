section CW
variable {F : Nat} {S : St} {n p : Nat} {N B : Nat → Int32}
theorem e_hasWordM (C : Cl0 S n p N B) (hs : SpF S p) {m c : Nat} {wl : Nat → Int32} (hm : m < kN N 7) (hc : 1 ≤ c) (hc2 : c ≤ 10) (hw : ∀ k, k < c → letB (wl k)) (hF : 1000 ≤ F) : f_X8_hasWord F S p (nI m) (lN (wv wl c)) = some (pI (contB N B m wl c), S) := by
  obtain ⟨j, j1, j2⟩ := e_msgAt (F := F) C hs hm
  obtain ⟨j', k1, k2, k3, k4, k5, k6, k7, k8, -⟩ := C.cm m hm
  rw [j1] at k1
  cases k1
  obtain ⟨-, -, -, h4, -, h5⟩ := C.wb.wM m hm
  have b4 : manyN N m ≤ 4 := h4.2
  have atq : ∀ q, q < kN N 8 → ∃ jj, f_X9_bytesOf F S (p + 6) (nI q) = some (some jj, S) ∧ f_X0_hasWord F S jj (lN (wv wl c)) = some (pI (∃ k, atB N B q wl c k), S) := by
    intro q hq
    obtain ⟨jj, g1, g2, g3, g4, g5, g6⟩ := e_bytesOf (F := F) C hs hq
    obtain ⟨w1, w2, -, -, w5⟩ := C.wb.wP q hq
    have b := w1.2
    refine ⟨jj, g1, ?_⟩
    rw [e_hasW (f := fun k => B (200 * q + k)) (w := wl) g3 g5 (by omega) (by omega) (fun k hk => ⟨g6 k hk, w5 k hk⟩) hc hc2 hw (by omega), pI_c]
    rw [hit_at hw]
    unfold atB
    constructor
    · rintro ⟨k, h1, h2, h3, h4⟩
      refine ⟨k, h1, fun i hi => by rw [Nat.add_assoc]; exact h2 i hi, ?_, by rw [Nat.add_assoc]; exact h4⟩
      by_cases z : k = 0
      · exact Or.inl z
      · refine Or.inr ?_
        rw [show 200 * q + k - 1 = 200 * q + (k - 1) by omega]
        rcases h3 with y | y
        · exact absurd y z
        · exact y
    · rintro ⟨k, h1, h2, h3, h4⟩
      refine ⟨k, h1, fun i hi => by have := h2 i hi; rw [Nat.add_assoc] at this; exact this, ?_, by rw [Nat.add_assoc] at h4; exact h4⟩
      by_cases z : k = 0
      · exact Or.inl z
      · refine Or.inr ?_
        rw [show 200 * q + k - 1 = 200 * q + (k - 1) by omega] at h3
        rcases h3 with y | y
        · exact absurd y z
        · exact y
  have g : ∀ d i fu, i + d = manyN N m → d < fu → f_X8_hasWord_L18 F fu S p (lN (wv wl c)) (j + 1) (nI (manyN N m)) (nI i) = some (pI (∃ i' k, i ≤ i' ∧ i' < manyN N m ∧ atB N B (partN N m i') wl c k), S) := by
    intro d
    induction d with
    | zero =>
      intro i fu hi hfu
      obtain ⟨fu, rfl⟩ : ∃ f', fu = f' + 1 := ⟨fu - 1, by omega⟩
      unfold f_X8_hasWord_L18
      rw [if_pos (nI_le (by omega) (by omega)), pI_f]
      rintro ⟨i', k, h1, h2, -⟩
      omega
    | succ d ih =>
      intro i fu hi hfu
      obtain ⟨fu, rfl⟩ : ∃ f', fu = f' + 1 := ⟨fu - 1, by omega⟩
      obtain ⟨q5, q6⟩ := h5 i (by omega)
      have q7 : N (334 + 7 * m + i) = nI (partN N m i) := q5.1
      obtain ⟨jj, a1, a2⟩ := atq (partN N m i) q6
      unfold f_X8_hasWord_L18
      rw [if_neg (nI_ge (by omega) (by omega)), k4, cki_nI (by omega) (by omega), nI_clamp (by omega), k8 i (by omega), q7, lt_eq, hs.r710_0, ob_some, a1, ob_some]
      simp only [lt_eq, ob_some]
      rw [a2, ob_some]
      simp only [pI_e0]
      by_cases z : ∃ k, atB N B (partN N m i) wl c k
      · obtain ⟨k, z⟩ := z
        rw [pif_t ⟨k, z⟩, pI_t ⟨i, k, Nat.le_refl _, by omega, z⟩]
      · rw [pif_f z, nI_1, ih (i + 1) fu (by omega) (by omega), pI_c]
        constructor
        · rintro ⟨i', k, h1, h2⟩; exact ⟨i', k, by omega, h2⟩
        · rintro ⟨i', k, h1, h2, h3⟩
          refine ⟨i', k, ?_, h2, h3⟩
          by_cases y : i' = i
          · subst y; exact absurd ⟨k, h3⟩ z
          · omega
  unfold f_X8_hasWord
  rw [j2, ob_some]
  simp only [lt_eq, ob_some]
  rw [k3, ob_some, k4, show (0 : Int32) = nI 0 from rfl, g (manyN N m) 0 F (by omega) (by omega), pI_c]
  exact ⟨fun ⟨i, k, _, h2, h3⟩ => ⟨i, k, h2, h3⟩, fun ⟨i, k, h2, h3⟩ => ⟨i, k, Nat.zero_le _, h2, h3⟩⟩
theorem st_hid {N B : Nat → Int32} (w : WB N B) {m u : Nat} (hm : m < kN N 7) (hu : u < 10) : (stN N m u = 1 ∨ stN N m u = 2) ↔ (1 ≤ stN N m u ∧ stN N m u ≤ 2) := by
  rcases (w.wR m u hm hu).1 with h | h | h | h | h <;> rw [h] <;> decide
end CW
section A
variable {F : Nat} {xs : Nat → Int32} {L : Nat} {S : St} {n : Nat} {i : Int32}
end A
