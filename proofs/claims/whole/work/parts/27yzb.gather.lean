/-! the readers of each part: the class -/
/-- a user has a live reference to a message that has the part -/
def rdP (N : Nat → Int32) (u q : Nat) : Prop := ∃ m, m < kN N 7 ∧ stN N m u = 0 ∧ hasN N m q
/-- the same, as far as it is known: messages below m, and the first i parts of m -/
def vsP (N : Nat → Int32) (m i u q : Nat) : Prop := ∃ m', stN N m' u = 0 ∧ ((m' < m ∧ m' < kN N 7 ∧ hasN N m' q) ∨ (m' = m ∧ ∃ k, k < i ∧ partN N m k = q))
/-- a row of sets of users -/
def RowB (N R : Nat → Int32) (P : Nat → Nat → Prop) : Prop := ∀ q, q < 480 → ∃ b, b < 1024 ∧ R q = nI b ∧ ∀ u, u < 10 → (b.testBit u = true ↔ u < kN N 4 ∧ P u q)
theorem RowB.c {N R : Nat → Int32} {P Q : Nat → Nat → Prop} (h : RowB N R P) (e : ∀ u q, P u q ↔ Q u q) : RowB N R Q := fun q hq => by
  obtain ⟨b, b1, b2, b3⟩ := h q hq
  exact ⟨b, b1, b2, fun u hu => by rw [b3 u hu, e]⟩
theorem bit10 : ∀ u, u < 10 → (1 : Int32) <<< (nI u &&& 31) = nI (2 ^ u) := by decide +kernel
section Ga
variable {F : Nat} {S : St} {n : Nat} {N B : Nat → Int32}
theorem users_bits (w : WB N B) {m : Nat} (hm : m < kN N 7) : ∃ b, b < 1024 ∧ runN (fun u (a : Int32) => if stN N m u < 0 then a else if 0 < stN N m u then a else a ||| (1 <<< (nI u &&& 31))) (kN N 4) 0 0 = nI b ∧ ∀ u, u < 10 → (b.testBit u = true ↔ u < kN N 4 ∧ stN N m u = 0) := by
  have b4 := w.n4.2
  have key : ∀ x, x ≤ kN N 4 → ∃ b, b < 1024 ∧ runN (fun u (a : Int32) => if stN N m u < 0 then a else if 0 < stN N m u then a else a ||| (1 <<< (nI u &&& 31))) x 0 0 = nI b ∧ ∀ u, u < 10 → (b.testBit u = true ↔ u < x ∧ stN N m u = 0) := by
    intro x
    induction x with
    | zero => intro _; exact ⟨0, by omega, rfl, fun u _ => by simp⟩
    | succ x ih =>
      intro hx
      obtain ⟨b, b1, b2, b3⟩ := ih (by omega)
      rw [runN_s, Nat.zero_add, b2]
      have st := (w.wR m x hm (by omega)).1
      by_cases z : stN N m x = 0
      · rw [z, if_neg (show ¬ (0 : Int32) < 0 by decide), if_neg (show ¬ (0 : Int32) < 0 by decide), bit10 x (by omega), nI_or]
        refine ⟨b ||| 2 ^ x, Nat.or_lt_two_pow (n := 10) b1 (Nat.pow_lt_pow_right (by omega) (by omega)), rfl, fun u hu => ?_⟩
        rw [Nat.testBit_or, Bool.or_eq_true, b3 u hu, Nat.testBit_two_pow, decide_eq_true_eq]
        constructor
        · rintro (y | y)
          · exact ⟨by omega, y.2⟩
          · exact ⟨by omega, by rw [← y]; exact z⟩
        · rintro ⟨y1, y2⟩
          by_cases e : u = x
          · exact Or.inr e.symm
          · exact Or.inl ⟨by omega, y2⟩
      · have e : (if stN N m x < 0 then nI b else if 0 < stN N m x then nI b else nI b ||| (1 <<< (nI x &&& 31))) = nI b := by
          rcases st with y | y | y | y | y
          · rw [y, if_pos (by decide)]
          · exact absurd y z
          · rw [y, if_neg (by decide), if_pos (by decide)]
          · rw [y, if_neg (by decide), if_pos (by decide)]
          · rw [y, if_neg (by decide), if_pos (by decide)]
        rw [e]
        refine ⟨b, b1, rfl, fun u hu => (b3 u hu).trans ⟨fun y => ⟨by omega, y.2⟩, fun y => ⟨?_, y.2⟩⟩⟩
        by_cases e : u = x
        · rw [e] at y; exact absurd y.2 z
        · omega
  exact key (kN N 4) (Nat.le_refl _)
def is196 (i : Nat) : Prop := i = 196
theorem Mf.e196 {T : St} (m : Mf no8 is196 S T) : Eqv S T := ⟨fun f i _ => m.1 f i, fun f i _ => m.2.1 f i (fun z => z.2), fun i h => m.2.2.1 i (fun z => h (by unfold is196 at z; rw [z]; decide)), fun i _ => by rw [m.2.2.2.1], fun i _ => by rw [m.2.2.2.2.1], m.2.2.2.2.2⟩
theorem e_fill196 (hx : FxF S) (hF : 1000 ≤ F) : ∃ T, f_J7_fill_53178 F S 196 0 = some T ∧ Mf no8 is196 S T ∧ ∀ q, q < 480 → ai T 196 q = 0 := by
  have l := hx.l196
  have loop : ∀ d k fu T, k + d = 480 → d < fu → Mf no8 is196 S T → (∀ c, c < k → ai T 196 c = 0) → ∃ T', f_J7_fill_53178_L5 F fu T 196 0 (nI k) (nI 480) = some T' ∧ Mf no8 is196 S T' ∧ ∀ q, q < 480 → ai T' 196 q = 0 := by
    intro d
    induction d with
    | zero =>
      intro k fu T hk hfu m1 m2
      obtain ⟨fu, rfl⟩ : ∃ f', fu = f' + 1 := ⟨fu - 1, by omega⟩
      have : k = 480 := by omega
      subst this
      refine ⟨T, ?_, m1, m2⟩
      unfold f_J7_fill_53178_L5
      rw [if_pos (nI_le (Nat.le_refl _) (by omega))]
    | succ d ih =>
      intro k fu T hk hfu m1 m2
      obtain ⟨fu, rfl⟩ : ∃ f', fu = f' + 1 := ⟨fu - 1, by omega⟩
      obtain ⟨T', t1, t2⟩ := ih (k + 1) fu (uai T 196 k 0) (by omega) (by omega) (m1.tr (Mf.uai _ rfl)) (fun c hc => by
        rw [ai_uaiE]
        by_cases z : c = k
        · rw [z, upd_e]
        · rw [upd_n z]; exact m2 c (by omega))
      refine ⟨T', ?_, t2⟩
      rw [← t1]
      conv => lhs; unfold f_J7_fill_53178_L5
      rw [if_neg (nI_ge (by omega) (by omega)), m1.2.2.2.2.2, l, cki_nI (by omega) (by omega), nI_clamp (by omega), lt_eq, lt_eq, nI_1]
  unfold f_J7_fill_53178
  rw [l]
  simp only [lt_eq]
  exact loop 480 0 F S (by omega) (by omega) (Mf.rf S) (fun c hc => by omega)
theorem e_gather (h : Rel S n) (hF : 1000 ≤ F) : ∃ T, f_X8_gatherReaders F S 27 196 = some T ∧ Mf no8 is196 S T ∧ RowB (ai S 198) (ai T 196) (fun u q => rdP (ai S 198) u q) := by
  have hx := h.fx
  have w := h.w
  obtain ⟨N, hN⟩ : ∃ N, N = ai S 198 := ⟨_, rfl⟩
  rw [← hN] at w ⊢
  have b4 := w.n4.2
  have b7 := w.n7.2
  have b8 := w.n8.2
  have c0 : ∀ T, Mf no8 is196 S T → Cl0 T n 27 N (ai S 200) := fun T m => by
    have := (h.eqv m.e196).c0
    rw [m.e196.net, m.e196.bytes, ← hN] at this
    exact this
  -- the parts of one message
  have row : ∀ (m : Nat) (k7 : St → Nat → Nat → Int32 → Option St), m < kN N 7 → ∀ (j bm : Nat), bm < 1024 → (∀ u, u < 10 → (bm.testBit u = true ↔ u < kN N 4 ∧ stN N m u = 0)) → j + 1 ≠ 196 → ln S (j + 1) = manyN N m → (∀ i, i < manyN N m → ai S (j + 1) i = nI (partN N m i)) →
      ∀ d i fu T, i + d = manyN N m → d < fu → Mf no8 is196 S T → RowB N (ai T 196) (vsP N m i) → ∃ T', f_X8_gatherReaders_L41 F k7 fu T 27 196 (nI m) (nI bm) (j + 1) (nI (manyN N m)) (nI i) = k7 T' 27 196 (nI (m + 1)) ∧ Mf no8 is196 S T' ∧ RowB N (ai T' 196) (vsP N (m + 1) 0) := by
    intro m k7 hm j bm bm1 bm2 hj hl hp d
    have m4 := (w.wM m hm).2.2.2.1.2
    have mm : manyN N m ≤ 4 := m4
    induction d with
    | zero =>
      intro i fu T hi hfu m1 m2
      obtain ⟨fu, rfl⟩ : ∃ f', fu = f' + 1 := ⟨fu - 1, by omega⟩
      have : i = manyN N m := by omega
      subst this
      refine ⟨T, ?_, m1, m2.c (fun u q => ?_)⟩
      · unfold f_X8_gatherReaders_L41
        rw [if_pos (nI_le (Nat.le_refl _) (by omega)), lt_eq, nI_1]
      · unfold vsP
        constructor
        · rintro ⟨m', y1, y2 | ⟨y2, y3⟩⟩
          · exact ⟨m', y1, Or.inl ⟨by omega, y2.2⟩⟩
          · exact ⟨m', y1, Or.inl ⟨by omega, by omega, by rw [y2]; exact y3⟩⟩
        · rintro ⟨m', y1, y2 | ⟨y2, k, y3, y4⟩⟩
          · by_cases z : m' = m
            · exact ⟨m', y1, Or.inr ⟨z, by rw [← z]; exact y2.2.2⟩⟩
            · exact ⟨m', y1, Or.inl ⟨by omega, y2.2⟩⟩
          · omega
    | succ d ih =>
      intro i fu T hi hfu m1 m2
      obtain ⟨fu, rfl⟩ : ∃ f', fu = f' + 1 := ⟨fu - 1, by omega⟩
      have l196 : ln T 196 = 480 := by rw [m1.2.2.2.2.2]; exact hx.l196
      obtain ⟨p, hpp⟩ : ∃ p, p = partN N m i := ⟨_, rfl⟩
      have p8 : p < kN N 8 := by rw [hpp]; exact ((w.wM m hm).2.2.2.2.2 i (by omega)).2
      have e1 : ai T (j + 1) i = nI p := by rw [m1.2.2.1 (j + 1) (by unfold is196; exact hj), hp i (by omega), hpp]
      obtain ⟨b, b1, b2, b3⟩ := m2 p (by omega)
      obtain ⟨T', t1, t2⟩ := ih (i + 1) fu (uai T 196 p (nI (b ||| bm))) (by omega) (by omega) (m1.tr (Mf.uai _ rfl)) (fun q hq => by
        rw [ai_uaiE]
        by_cases z : q = p
        · rw [z, upd_e]
          refine ⟨b ||| bm, Nat.or_lt_two_pow (n := 10) b1 bm1, rfl, fun u hu => ?_⟩
          rw [Nat.testBit_or, Bool.or_eq_true, b3 u hu, bm2 u hu]
          constructor
          · rintro (⟨y1, m', y2, y3 | ⟨y3, k, y4, y5⟩⟩ | y)
            · exact ⟨y1, m', y2, Or.inl y3⟩
            · exact ⟨y1, m', y2, Or.inr ⟨y3, k, by omega, y5⟩⟩
            · exact ⟨y.1, m, y.2, Or.inr ⟨rfl, i, by omega, hpp.symm⟩⟩
          · rintro ⟨y1, m', y2, y3 | ⟨y3, k, y4, y5⟩⟩
            · exact Or.inl ⟨y1, m', y2, Or.inl y3⟩
            · exact Or.inr ⟨y1, by rw [← y3]; exact y2⟩
        · rw [upd_n z]
          obtain ⟨b', x1, x2, x3⟩ := m2 q hq
          refine ⟨b', x1, x2, fun u hu => (x3 u hu).trans ⟨?_, ?_⟩⟩
          · rintro ⟨y1, m', y2, y3 | ⟨y3, k, y4, y5⟩⟩
            · exact ⟨y1, m', y2, Or.inl y3⟩
            · exact ⟨y1, m', y2, Or.inr ⟨y3, k, by omega, y5⟩⟩
          · rintro ⟨y1, m', y2, y3 | ⟨y3, k, y4, y5⟩⟩
            · exact ⟨y1, m', y2, Or.inl y3⟩
            · refine ⟨y1, m', y2, Or.inr ⟨y3, k, ?_, y5⟩⟩
              by_cases e : k = i
              · rw [e, ← hpp] at y5; exact absurd y5.symm z
              · omega)
      refine ⟨T', ?_, t2⟩
      rw [← t1]
      conv => lhs; unfold f_X8_gatherReaders_L41
      rw [if_neg (nI_ge (by omega) (by omega)), m1.2.2.2.2.2, hl, cki_nI (by omega) (by omega), nI_clamp (by omega), e1, lt_eq, e_at (by omega) (by omega), ob_some, b2]
      simp only [lt_eq]
      rw [nI_or, e_put _ (by omega) (by omega), ob_some, nI_1]
  have loop : ∀ d m fu T, m + d = kN N 7 → d < fu → Mf no8 is196 S T → RowB N (ai T 196) (vsP N m 0) → ∃ T', f_X8_gatherReaders_L7 F fu T 27 196 (nI m) = some T' ∧ Mf no8 is196 S T' ∧ RowB N (ai T' 196) (vsP N (kN N 7) 0) := by
    intro d
    induction d with
    | zero =>
      intro m fu T hk hfu m1 m2
      obtain ⟨fu, rfl⟩ : ∃ f', fu = f' + 1 := ⟨fu - 1, by omega⟩
      have : m = kN N 7 := by omega
      subst this
      refine ⟨T, ?_, m1, m2⟩
      unfold f_X8_gatherReaders_L7
      rw [(c0 T m1).s705, if_pos (nI_le (Nat.le_refl _) (by omega))]
    | succ d ih =>
      intro m fu T hk hfu m1 m2
      obtain ⟨fu, rfl⟩ : ∃ f', fu = f' + 1 := ⟨fu - 1, by omega⟩
      have hm : m < kN N 7 := by omega
      have C := c0 T m1
      have hxT := hx.eqv m1.e196
      obtain ⟨bm, bm1, bm2, bm3⟩ := users_bits w hm
      obtain ⟨j', j1, j2⟩ := e_msgAt (F := F) C hxT.sp27 hm
      obtain ⟨j, g1, g2, g3, g4, g5, g6, g7, g8, -⟩ := (c0 S (Mf.rf S)).cm m hm
      have ej : j' = j := by
        have : ar T (27 + 2) m = some j := by rw [m1.2.2.2.2.1]; exact g1
        rw [this] at j1
        exact (Option.some.inj j1).symm
      subst ej
      have g2' := g2.1
      obtain ⟨T1, t1, t2, t3⟩ := row m (fun a0 a1 a2 a3 => f_X8_gatherReaders_L7 F fu a0 a1 a2 a3) hm j' bm bm1 bm3 (by omega) g4 (fun i hi => by rw [g8 i hi]; exact ((w.wM m hm).2.2.2.2.2 i hi).1.1) (manyN N m) 0 F T (by omega) (by have := (w.wM m hm).2.2.2.1.2; unfold manyN; omega) m1 m2
      obtain ⟨T', r1, r2⟩ := ih (m + 1) fu T1 (by omega) (by omega) t2 t3
      refine ⟨T', ?_, r2⟩
      rw [← r1, ← t1]
      conv => lhs; unfold f_X8_gatherReaders_L7
      rw [C.s705, if_neg (nI_ge (by omega) (by omega)), e_usersIn C hxT.sp27 hm 0 0 hF, ob_some, bm2]
      simp only [lt_eq]
      rw [j2, ob_some]
      simp only [lt_eq]
      rw [ob_some, m1.1, g3, ob_some, m1.2.2.2.2.2, g4]
      rfl
  obtain ⟨T0, f1, f2, f3⟩ := e_fill196 (F := F) hx hF
  obtain ⟨T', r1, r2, r3⟩ := loop (kN N 7) 0 F T0 (by omega) (by omega) f2 (fun q hq => ⟨0, by omega, f3 q hq, fun u _ => by
    rw [Nat.zero_testBit]
    exact ⟨fun y => absurd y (by decide), fun ⟨_, m', _, y⟩ => by omega⟩⟩)
  refine ⟨T', ?_, r2, r3.c (fun u q => ?_)⟩
  · unfold f_X8_gatherReaders
    rw [f1, ob_some]
    exact r1
  · constructor
    · rintro ⟨m', y1, y2 | ⟨y2, k, y3, -⟩⟩
      · exact ⟨m', y2.1, y1, y2.2.2⟩
      · omega
    · rintro ⟨m', y1, y2, y3⟩
      exact ⟨m', y2, Or.inl ⟨y1, y1, y3⟩⟩
end Ga
