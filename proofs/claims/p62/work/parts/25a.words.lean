/-! words: letters, runs of letters, numbers to the base 27 -/
theorem letB_d {b : Int32} (h : letB b) : ∃ d, 1 ≤ d ∧ d ≤ 26 ∧ b = nI (96 + d) := by
  obtain ⟨h1, h2⟩ := h
  have p : ¬ b < 0 := by
    rw [Int32.le_iff_toInt_le] at h1
    rw [Int32.lt_iff_toInt_lt]
    have e1 : (97 : Int32).toInt = 97 := by decide
    have e0 : (0 : Int32).toInt = 0 := by decide
    omega
  obtain ⟨j, hj, rfl⟩ := nI_of p
  have a1 : 97 ≤ j := (nI_leI (a := 97) (by omega) hj).mp h1
  have a2 : j ≤ 122 := (nI_leI (b := 122) hj (by omega)).mp h2
  exact ⟨j - 96, by omega, by omega, by rw [show 96 + (j - 96) = j by omega]⟩
theorem letB_nI {d : Nat} (h1 : 1 ≤ d) (h2 : d ≤ 26) : letB (nI (96 + d)) := ⟨nI_le (a := 97) (by omega) (by omega), nI_le (b := 122) (by omega) (by omega)⟩
theorem i8 (b : Int32) (h : b.toInt8.toInt32 = b) : (letB b ↔ (97 ≤ b &&& 255 ∧ b &&& 255 ≤ 122)) ∧ (letB b → b &&& 255 = b) := by
  have e : ∀ n, n < 256 → (((97 ≤ (Int8.ofNat n).toInt32 ∧ (Int8.ofNat n).toInt32 ≤ 122) ↔ (97 ≤ (Int8.ofNat n).toInt32 &&& 255 ∧ (Int8.ofNat n).toInt32 &&& 255 ≤ 122)) ∧ ((97 ≤ (Int8.ofNat n).toInt32 ∧ (Int8.ofNat n).toInt32 ≤ 122) → (Int8.ofNat n).toInt32 &&& 255 = (Int8.ofNat n).toInt32)) := by decide +kernel
  have g : ∃ n, n < 256 ∧ b.toInt8 = Int8.ofNat n := ⟨b.toInt8.toBitVec.toNat, b.toInt8.toBitVec.isLt, by
    apply Int8.toBitVec_inj.mp
    show _ = BitVec.ofNat 8 _
    rw [BitVec.ofNat_toNat, BitVec.setWidth_eq]⟩
  obtain ⟨n, hn, g2⟩ := g
  rw [← h, g2]
  exact e n hn
def wv (f : Nat → Int32) (c : Nat) : Nat := runN (fun k a => a * 27 + ((f k).toNatClampNeg - 96)) c 0 0
theorem wv_0 (f : Nat → Int32) : wv f 0 = 0 := rfl
theorem wv_s (f : Nat → Int32) (c : Nat) : wv f (c + 1) = wv f c * 27 + ((f c).toNatClampNeg - 96) := by
  unfold wv
  rw [runN_s, Nat.zero_add]
theorem let_dig {b : Int32} (h : letB b) : 1 ≤ b.toNatClampNeg - 96 ∧ b.toNatClampNeg - 96 ≤ 26 ∧ b = nI (96 + (b.toNatClampNeg - 96)) := by
  obtain ⟨d, h1, h2, rfl⟩ := letB_d h
  rw [nI_clamp (by omega), show 96 + d - 96 = d by omega]
  exact ⟨h1, h2, rfl⟩
theorem wv_lt {f : Nat → Int32} : ∀ {c : Nat}, (∀ k, k < c → letB (f k)) → wv f c < 27 ^ c := by
  intro c
  induction c with
  | zero => intro _; rw [wv_0]; exact Nat.one_pos
  | succ c ih =>
    intro h
    have := ih (fun k hk => h k (by omega))
    have := (let_dig (h c (by omega))).2.1
    rw [wv_s, Nat.pow_succ]
    omega
theorem wv_ge {f : Nat → Int32} : ∀ {c : Nat}, (∀ k, k < c + 1 → letB (f k)) → 27 ^ c ≤ wv f (c + 1) := by
  intro c
  induction c with
  | zero =>
    intro h
    have := (let_dig (h 0 (by omega))).1
    rw [wv_s, wv_0]
    show 1 ≤ _
    omega
  | succ c ih =>
    intro h
    have := ih (fun k hk => h k (by omega))
    rw [wv_s, Nat.pow_succ]
    omega
theorem wv_inj {f g : Nat → Int32} : ∀ {c d : Nat}, (∀ k, k < c → letB (f k)) → (∀ k, k < d → letB (g k)) → wv f c = wv g d → c = d ∧ ∀ k, k < c → f k = g k := by
  intro c
  induction c with
  | zero =>
    intro d _ hg e
    cases d with
    | zero => exact ⟨rfl, fun k h => absurd h (Nat.not_lt_zero _)⟩
    | succ d =>
      have := (let_dig (hg d (by omega))).1
      rw [wv_s, wv_0] at e
      omega
  | succ c ih =>
    intro d hf hg e
    have c1 := let_dig (hf c (by omega))
    cases d with
    | zero =>
      rw [wv_s, wv_0] at e
      omega
    | succ d =>
      have d1 := let_dig (hg d (by omega))
      rw [wv_s, wv_s] at e
      obtain ⟨e1, e2⟩ := ih (fun k hk => hf k (by omega)) (fun k hk => hg k (by omega)) (show wv f c = wv g d by omega)
      subst e1
      refine ⟨rfl, fun k hk => ?_⟩
      rcases Nat.lt_or_ge k c with z | z
      · exact e2 k z
      · have : k = c := by omega
        subst this
        rw [c1.2.2, d1.2.2, show (f k).toNatClampNeg - 96 = (g k).toNatClampNeg - 96 by omega]
theorem wv_c {f g : Nat → Int32} : ∀ {c : Nat}, (∀ k, k < c → f k = g k) → wv f c = wv g c := by
  intro c
  induction c with
  | zero => intro _; rw [wv_0, wv_0]
  | succ c ih => intro h; rw [wv_s, wv_s, ih (fun k hk => h k (by omega)), h c (by omega)]
theorem lN_t {n : Nat} (h : n < 2 ^ 63) : (lN n).toInt = (n : Int) := lg_ofNat_toInt (by omega)
theorem lN_inj {a b : Nat} (ha : a < 2 ^ 63) (hb : b < 2 ^ 63) : lN a = lN b ↔ a = b := by
  rw [← Int64.toInt_inj, lN_t ha, lN_t hb]
  omega
theorem lN_ltI {a b : Nat} (ha : a < 2 ^ 63) (hb : b < 2 ^ 63) : lN a < lN b ↔ a < b := by
  rw [Int64.lt_iff_toInt_lt, lN_t ha, lN_t hb]
  omega
theorem lN_m1 {a : Nat} (ha : a < 2 ^ 63) : ¬ lN a = -1 := by
  intro e
  have := lN_t ha
  rw [e] at this
  have e1 : (-1 : Int64).toInt = -1 := by decide
  omega
theorem lN_step {a d : Nat} (h1 : 1 ≤ d) (h2 : d ≤ 26) : lN a * 27 + ((nI (96 + d) - 97) + 1).toInt64 = lN (a * 27 + d) := by
  have e : ∀ d, d < 27 → 1 ≤ d → ((nI (96 + d) - 97) + 1).toInt64 = lN d := by decide +kernel
  rw [e d (by omega) h1, show (27 : Int64) = lN 27 from rfl]
  unfold lN
  rw [← Int64.ofNat_mul, ← Int64.ofNat_add]
theorem p27_9 : 27 ^ 9 = 7625597484987 := by decide
theorem p27_10 : 27 ^ 10 = 205891132094649 := by decide
/-- what the class holds of a run of c letters -/
def wEnc (f : Nat → Int32) (c : Nat) : Int64 := if c ≤ 10 then lN (wv f c) else -1
theorem wv_b {f : Nat → Int32} {c : Nat} (hc : c ≤ 10) (h : ∀ k, k < c → letB (f k)) : wv f c < 205891132094650 := by
  have a := wv_lt h
  have : 27 ^ c ≤ 27 ^ 10 := Nat.pow_le_pow_right (by omega) hc
  rw [p27_10] at this
  omega
theorem e_isLet (F : Nat) (S : St) (b : Int32) : f_X10_isLetter F S b = some (bI (97 ≤ b ∧ b ≤ 122), S) := by
  unfold f_X10_isLetter
  by_cases h1 : b < 97
  · rw [if_pos h1, bI_f (fun z => (le_nlt.mp z.1) h1)]
  · rw [if_neg h1]
    by_cases h2 : 122 < b
    · rw [if_pos h2, bI_f (fun z => (le_nlt.mp z.2) h2)]
    · rw [if_neg h2, bI_t ⟨le_nlt.mpr h1, le_nlt.mpr h2⟩]
theorem e_withLetter (F : Nat) (S : St) {f : Nat → Int32} {c : Nat} (h : ∀ k, k < c + 1 → letB (f k)) : f_X10_withLetter F S (wEnc f c) (f c) = some (wEnc f (c + 1), S) := by
  unfold f_X10_withLetter wEnc
  simp only [lg_cmp_eq, lg_cmp_lt]
  by_cases h1 : c ≤ 10
  · have b1 := wv_b h1 (fun k hk => h k (by omega))
    rw [if_pos h1, if_neg (lN_m1 (by omega))]
    by_cases h2 : c = 10
    · subst h2
      have g := wv_ge (f := f) (c := 9) (fun k hk => h k (by omega))
      rw [p27_9] at g
      rw [if_neg (show ¬ lN (wv f 10) < 7625597484987 by rw [show (7625597484987 : Int64) = lN 7625597484987 from rfl, lN_ltI (by omega) (by omega)]; have g' : 7625597484987 ≤ wv f 10 := g; omega), if_neg (by omega)]
    · have g := wv_lt (f := f) (c := c) (fun k hk => h k (by omega))
      have : 27 ^ c ≤ 27 ^ 9 := Nat.pow_le_pow_right (by omega) (by omega)
      rw [p27_9] at this
      obtain ⟨d1, d2, d3⟩ := let_dig (h c (by omega))
      rw [if_pos (show lN (wv f c) < 7625597484987 by rw [show (7625597484987 : Int64) = lN 7625597484987 from rfl, lN_ltI (by omega) (by omega)]; omega), if_pos (by omega), wv_s]
      generalize (f c).toNatClampNeg - 96 = d at d1 d2 d3
      rw [d3, lN_step d1 d2]
  · rw [if_neg h1, if_pos rfl, if_neg (by omega)]
/-- the letters that end at k -/
noncomputable def rl (f : Nat → Int32) : Nat → Nat
  | 0 => 0
  | k + 1 => pif (letB (f k)) (rl f k + 1) 0
theorem rl_s (f : Nat → Int32) (k : Nat) : rl f (k + 1) = pif (letB (f k)) (rl f k + 1) 0 := rfl
theorem rl_le (f : Nat → Int32) : ∀ k, rl f k ≤ k := by
  intro k
  induction k with
  | zero => exact Nat.le_refl _
  | succ k ih =>
    rw [rl_s]
    by_cases h : letB (f k)
    · rw [pif_t h]; omega
    · rw [pif_f h]; omega
theorem rl_let (f : Nat → Int32) : ∀ k i, k - rl f k ≤ i → i < k → letB (f i) := by
  intro k
  induction k with
  | zero => intro i _ h; omega
  | succ k ih =>
    intro i h1 h2
    rw [rl_s] at h1
    by_cases h : letB (f k)
    · rw [pif_t h] at h1
      rcases Nat.lt_or_ge i k with z | z
      · exact ih i (by omega) z
      · rw [show i = k by omega]; exact h
    · rw [pif_f h] at h1; omega
theorem rl_max (f : Nat → Int32) : ∀ k, rl f k = k ∨ ¬ letB (f (k - rl f k - 1)) := by
  intro k
  induction k with
  | zero => exact Or.inl rfl
  | succ k ih =>
    rw [rl_s]
    by_cases h : letB (f k)
    · rw [pif_t h]
      rcases ih with q | q
      · exact Or.inl (by omega)
      · refine Or.inr ?_
        rw [show k + 1 - (rl f k + 1) - 1 = k - rl f k - 1 by omega]
        exact q
    · rw [pif_f h]
      exact Or.inr (by rw [show k + 1 - 0 - 1 = k by omega]; exact h)
/-- a run that ends at e and has c letters, and no letter ahead of it -/
theorem rl_eq {f : Nat → Int32} {e c : Nat} (hc : c ≤ e) (h : ∀ i, i < c → letB (f (e - c + i))) (hb : c = e ∨ ¬ letB (f (e - c - 1))) : rl f e = c := by
  have h1 := rl_le f e
  have h2 := rl_max f e
  rcases Nat.lt_trichotomy (rl f e) c with z | z | z
  · exfalso
    rcases h2 with q | q
    · omega
    · apply q
      have := h (c - rl f e - 1) (by omega)
      rw [show e - c + (c - rl f e - 1) = e - rl f e - 1 by omega] at this
      exact this
  · exact z
  · exfalso
    rcases hb with q | q
    · omega
    · exact q (rl_let f e _ (by omega) (by omega))
noncomputable def eEnc (f : Nat → Int32) (k : Nat) : Int64 := wEnc (fun i => f (k - rl f k + i)) (rl f k)
theorem eEnc_s {f : Nat → Int32} {k : Nat} (F : Nat) (S : St) (h : letB (f k)) : f_X10_withLetter F S (eEnc f k) (f k) = some (eEnc f (k + 1), S) := by
  have a := rl_le f k
  have e := e_withLetter F S (f := fun i => f (k - rl f k + i)) (c := rl f k) (fun i hi => by
    rcases Nat.lt_or_ge i (rl f k) with z | z
    · exact rl_let f k _ (by omega) (by omega)
    · rw [show i = rl f k by omega, show k - rl f k + rl f k = k by omega]; exact h)
  rw [show k - rl f k + rl f k = k by omega] at e
  unfold eEnc
  rw [e, rl_s, pif_t h, show k + 1 - (rl f k + 1) = k - rl f k by omega]
theorem eEnc_n {f : Nat → Int32} {k : Nat} (h : ¬ letB (f k)) : eEnc f (k + 1) = 0 := by
  unfold eEnc
  rw [rl_s, pif_f h]
  rfl
/-- the word w, c letters, ends at e -/
def hitE (f : Nat → Int32) (L : Nat) (w : Nat → Int32) (c e : Nat) : Prop := (e = L ∨ ¬ letB (f e)) ∧ rl f e = c ∧ ∀ i, i < c → f (e - c + i) = w i
theorem hit_iff {f w : Nat → Int32} {c e : Nat} (hc : c ≤ 10) (hw : ∀ k, k < c → letB (w k)) : eEnc f e = lN (wv w c) ↔ rl f e = c ∧ ∀ i, i < c → f (e - c + i) = w i := by
  have bw := wv_b hc hw
  have a := rl_le f e
  unfold eEnc wEnc
  by_cases h : rl f e ≤ 10
  · have hl : ∀ k, k < rl f e → letB (f (e - rl f e + k)) := fun k hk => rl_let f e _ (by omega) (by omega)
    have bf := wv_b (f := fun i => f (e - rl f e + i)) h hl
    rw [if_pos h, lN_inj (by omega) (by omega)]
    constructor
    · intro q
      obtain ⟨q1, q2⟩ := wv_inj hl hw q
      exact ⟨q1, fun i hi => by have := q2 i (by omega); rw [← q1]; exact this⟩
    · rintro ⟨q1, q2⟩
      rw [q1]
      exact wv_c q2
  · rw [if_neg h]
    constructor
    · intro q; exact absurd q.symm (lN_m1 (by omega))
    · rintro ⟨q1, -⟩; omega
theorem hit_at {f w : Nat → Int32} {L c : Nat} (hw : ∀ k, k < c → letB (w k)) : (∃ e, e ≤ L ∧ hitE f L w c e) ↔ ∃ k, k + c ≤ L ∧ (∀ i, i < c → f (k + i) = w i) ∧ (k = 0 ∨ ¬ letB (f (k - 1))) ∧ (k + c = L ∨ ¬ letB (f (k + c))) := by
  constructor
  · rintro ⟨e, h1, h2, h3, h4⟩
    have a := rl_le f e
    have m := rl_max f e
    refine ⟨e - c, by omega, h4, ?_, ?_⟩
    · rcases m with q | q
      · exact Or.inl (by omega)
      · rw [h3] at q; exact Or.inr q
    · rw [show e - c + c = e by omega]
      exact h2
  · rintro ⟨k, h1, h2, h3, h4⟩
    refine ⟨k + c, h1, h4, ?_, ?_⟩
    · refine rl_eq (by omega) (fun i hi => ?_) ?_
      · rw [show k + c - c + i = k + i by omega, h2 i hi]; exact hw i hi
      · rw [show k + c - c - 1 = k - 1 by omega]
        rcases h3 with q | q
        · exact Or.inl (by omega)
        · exact Or.inr q
    · intro i hi
      rw [show k + c - c + i = k + i by omega]
      exact h2 i hi
/-- the class looks for a word in a part -/
theorem e_hasW {F : Nat} {S : St} {j r L c : Nat} {f w : Nat → Int32} (h0 : sr S 0 j = some r) (h1 : si S 1 j = nI L) (hL : L ≤ ln S r) (hb : ln S r < 2 ^ 31) (hf : ∀ k, k < L → ai S r k = f k ∧ (f k).toInt8.toInt32 = f k) (hc : 1 ≤ c) (hc2 : c ≤ 10) (hw : ∀ k, k < c → letB (w k)) (hF : L < F) :
    f_X0_hasWord F S j (lN (wv w c)) = some (pI (∃ e, e ≤ L ∧ hitE f L w c e), S) := by
  have bw := wv_b hc2 hw
  have w0 : ¬ (0 : Int64) = lN (wv w c) := by
    have g := wv_ge (f := w) (c := c - 1) (fun k hk => hw k (by omega))
    rw [show c - 1 + 1 = c by omega] at g
    have p : 0 < 27 ^ (c - 1) := Nat.pow_pos (by omega)
    rw [show (0 : Int64) = lN 0 from rfl, lN_inj (by omega) (by omega)]
    omega
  have g : ∀ d k fu, k + d = L → d < fu → f_X0_hasWord_L5 F fu S j (lN (wv w c)) (eEnc f k) (nI k) = some (pI (∃ e, k ≤ e ∧ e ≤ L ∧ hitE f L w c e), S) := by
    intro d
    induction d with
    | zero =>
      intro k fu hk hfu
      obtain ⟨fu, rfl⟩ : ∃ f', fu = f' + 1 := ⟨fu - 1, by omega⟩
      have : k = L := by omega
      subst this
      unfold f_X0_hasWord_L5
      rw [h1, if_pos (nI_le (Nat.le_refl _) (by omega))]
      simp only [lg_cmp_eq]
      by_cases z : eEnc f k = lN (wv w c)
      · rw [if_neg (fun y => y z), pI_t ⟨k, Nat.le_refl _, Nat.le_refl _, Or.inl rfl, (hit_iff hc2 hw).mp z⟩]
      · rw [if_pos z, pI_f]
        rintro ⟨e, q1, q2, -, q3⟩
        have : e = k := by omega
        subst this
        exact z ((hit_iff hc2 hw).mpr q3)
    | succ d ih =>
      intro k fu hk hfu
      obtain ⟨fu, rfl⟩ : ∃ f', fu = f' + 1 := ⟨fu - 1, by omega⟩
      obtain ⟨f1, f2⟩ := hf k (by omega)
      have bt := e_byteAt F h0 h1 hL hb (show k < L by omega)
      obtain ⟨i1, i2⟩ := i8 (f k) f2
      unfold f_X0_hasWord_L5 f_X0_hasWord_L50
      rw [h1, if_neg (nI_ge (by omega) (by omega)), bt, ob_some, f1]
      simp only [lt_eq]
      rw [e_isLet, ob_some]
      simp only [lt_eq, lg_cmp_eq]
      by_cases hl : letB (f k)
      · have hl2 : letB (f k &&& 255) := i1.mp hl
        rw [bI_t (show 97 ≤ f k &&& 255 ∧ f k &&& 255 ≤ 122 from hl2), if_neg (by decide), i2 hl, eEnc_s F S hl, ob_some, nI_1, ih (k + 1) fu (by omega) (by omega), pI_c]
        constructor
        · rintro ⟨e, q1, q2⟩; exact ⟨e, by omega, q2⟩
        · rintro ⟨e, q1, q2, q3⟩
          refine ⟨e, ?_, q2, q3⟩
          rcases Nat.lt_or_ge k e with y | y
          · exact y
          · exfalso
            have : e = k := by omega
            subst this
            rcases q3.1 with x | x
            · omega
            · exact x hl
      · have hl2 : ¬ letB (f k &&& 255) := fun y => hl (i1.mpr y)
        rw [bI_f (show ¬ (97 ≤ f k &&& 255 ∧ f k &&& 255 ≤ 122) from hl2), if_pos rfl]
        by_cases z : eEnc f k = lN (wv w c)
        · rw [if_neg (fun y => y z), pI_t ⟨k, Nat.le_refl _, by omega, Or.inr hl, (hit_iff hc2 hw).mp z⟩]
        · rw [if_pos z, nI_1, ← eEnc_n hl, ih (k + 1) fu (by omega) (by omega), pI_c]
          constructor
          · rintro ⟨e, q1, q2⟩; exact ⟨e, by omega, q2⟩
          · rintro ⟨e, q1, q2, q3⟩
            refine ⟨e, ?_, q2, q3⟩
            rcases Nat.lt_or_ge k e with y | y
            · exact y
            · exfalso
              have : e = k := by omega
              subst this
              exact z ((hit_iff hc2 hw).mpr q3.2)
  unfold f_X0_hasWord
  have e0 : eEnc f 0 = 0 := rfl
  have := g L 0 F (by omega) hF
  rw [e0] at this
  rw [show (0 : Int32) = nI 0 from rfl, this, pI_c]
  exact ⟨fun ⟨e, q1, q2⟩ => ⟨e, q2⟩, fun ⟨e, q2⟩ => ⟨e, Nat.zero_le _, q2⟩⟩

