/-! sets of bits -/
noncomputable def bitsN (P : Nat → Prop) : Nat → Nat
  | 0 => 0
  | k + 1 => pif (P k) (bitsN P k ||| 2 ^ k) (bitsN P k)
theorem bits_lt (P : Nat → Prop) : ∀ k, bitsN P k < 2 ^ k := by
  intro k
  induction k with
  | zero => exact Nat.one_pos
  | succ k ih =>
    have e : 2 ^ k < 2 ^ (k + 1) := Nat.pow_lt_pow_right (by omega) (by omega)
    unfold bitsN
    by_cases h : P k
    · rw [pif_t h]
      exact Nat.or_lt_two_pow (Nat.lt_trans ih e) e
    · rw [pif_f h]
      exact Nat.lt_trans ih e
theorem bits_tb (P : Nat → Prop) (h : Nat) : ∀ k, (bitsN P k).testBit h = true ↔ h < k ∧ P h := by
  intro k
  induction k with
  | zero => simp [bitsN]
  | succ k ih =>
    unfold bitsN
    by_cases hp : P k
    · rw [pif_t hp, Nat.testBit_or, Bool.or_eq_true, ih, Nat.testBit_two_pow]
      constructor
      · rintro (q | q)
        · exact ⟨by omega, q.2⟩
        · have := of_decide_eq_true q
          subst this
          exact ⟨by omega, hp⟩
      · rintro ⟨q1, q2⟩
        by_cases e : k = h
        · exact Or.inr (decide_eq_true e)
        · exact Or.inl ⟨by omega, q2⟩
    · rw [pif_f hp, ih]
      constructor
      · rintro ⟨q1, q2⟩
        exact ⟨by omega, q2⟩
      · rintro ⟨q1, q2⟩
        refine ⟨?_, q2⟩
        by_cases e : k = h
        · subst e; exact absurd q2 hp
        · omega
theorem bits_c {P Q : Nat → Prop} : ∀ {k : Nat}, (∀ h, h < k → (P h ↔ Q h)) → bitsN P k = bitsN Q k := by
  intro k
  induction k with
  | zero => intro _; rfl
  | succ k ih =>
    intro h
    unfold bitsN
    rw [ih (fun j hj => h j (by omega)), pif_c (h k (by omega))]
theorem bits_0 {P : Nat → Prop} {k : Nat} : bitsN P k = 0 ↔ ∀ h, h < k → ¬ P h := by
  constructor
  · intro e h hk hp
    have := (bits_tb P h k).mpr ⟨hk, hp⟩
    rw [e, Nat.zero_testBit] at this
    cases this
  · intro e
    apply Nat.eq_of_testBit_eq
    intro i
    rw [Nat.zero_testBit]
    by_cases q : (bitsN P k).testBit i = true
    · have := (bits_tb P i k).mp q
      exact absurd this.2 (e i this.1)
    · simpa using q
theorem sh1 {k : Nat} (h : k < 31) : (1 : Int32) <<< (nI k &&& 31) = nI (2 ^ k) := (show ∀ k, k < 31 → (1 : Int32) <<< (nI k &&& 31) = nI (2 ^ k) by decide +kernel) k h
theorem nI_or (a b : Nat) : nI a ||| nI b = nI (a ||| b) := Int32.toBitVec_inj.mp (by
  show BitVec.ofNat 32 a ||| BitVec.ofNat 32 b = BitVec.ofNat 32 (a ||| b)
  rw [BitVec.ofNat_or])
theorem nI_and (a b : Nat) : nI a &&& nI b = nI (a &&& b) := Int32.toBitVec_inj.mp (by
  show BitVec.ofNat 32 a &&& BitVec.ofNat 32 b = BitVec.ofNat 32 (a &&& b)
  rw [BitVec.ofNat_and])
theorem or_run {P : Nat → Prop} (s : Nat → Int32 → Int32) : ∀ {n : Nat}, n ≤ 31 → (∀ k a, k < n → s k a = pif (P k) (a ||| (1 <<< (nI k &&& 31))) a) → runN s n 0 0 = nI (bitsN P n) := by
  intro n
  induction n with
  | zero => intro _ _; rfl
  | succ n ih =>
    intro hn h
    rw [runN_s, Nat.zero_add, h n _ (by omega), ih (by omega) (fun k a hk => h k a (by omega))]
    show _ = nI (pif (P n) (bitsN P n ||| 2 ^ n) (bitsN P n))
    by_cases hp : P n
    · rw [pif_t hp, pif_t hp, sh1 (by omega), nI_or]
    · rw [pif_f hp, pif_f hp]
theorem hasB {a k : Nat} (ha : a < 1024) (hk : k < 10) : ((nI a >>> (nI k &&& 31)) &&& 1 = if a.testBit k = true then 1 else 0) := by
  have : ∀ a, a < 1024 → ∀ k, k < 10 → (nI a >>> (nI k &&& 31)) &&& 1 = if a.testBit k = true then 1 else 0 := by decide +kernel
  exact this a ha k hk
theorem e_hasBit (F : Nat) (S : St) {a k : Nat} (ha : a < 1024) (hk : k < 10) : f_X10_hasBit F S (nI a) (nI k) = some (bI (a.testBit k = true), S) := by
  unfold f_X10_hasBit
  rw [hasB ha hk]
  by_cases h : a.testBit k = true
  · rw [if_pos h, bI_t h]; rfl
  · rw [if_neg h, bI_f h]; rfl
/-! what both answer -/
/-- the bytes of a message -/
def szN (N : Nat → Int32) (m : Nat) : Nat := runN (fun i a => a + kN N (4771 + 3 * partN N m i)) (manyN N m) 0 0
def usN (N : Nat → Int32) (u : Nat) : Int32 := runN (fun m a => if stN N m u = 0 then a + nI (szN N m) else a) (kN N 7) 0 0
/-- the active holds that cover a reference -/
def covP (N B : Nat → Int32) (m u h : Nat) : Prop := N (208 + 21 * h) = 1 ∧ N (205 + 21 * h) = nI u ∧ asksN N B m h
noncomputable def covN (N B : Nat → Int32) (m u : Nat) : Nat := bitsN (covP N B m u) (kN N 6)
theorem cov_lt {N B : Nat → Int32} (w : WB N B) (m u : Nat) : covN N B m u < 64 := by
  have h := bits_lt (covP N B m u) (kN N 6)
  have := w.n6.2
  have : 2 ^ kN N 6 ≤ 2 ^ 6 := Nat.pow_le_pow_right (by omega) this
  unfold covN
  omega
def ladF (N : Nat → Int32) : Nat → Int32 → Int32 → Int32
  | 0, _, a => a
  | f + 1, x, a => if x = -1 then a else if N (11 + 9 * x.toNatClampNeg) = -1 then -1 else ladF N f (N (13 + 9 * x.toNatClampNeg)) (a + N (11 + 9 * x.toNatClampNeg))
def ladN (N : Nat → Int32) (c : Nat) : Int32 := ladF N (c + 1) (nI c) 0
theorem ladF_m1 (N : Nat → Int32) (f : Nat) (a : Int32) : ladF N f (-1) a = a := by
  cases f with
  | zero => rfl
  | succ f => unfold ladF; rw [if_pos rfl]
theorem nI_nm1 {k : Nat} (h : k < 2 ^ 31) : ¬ nI k = -1 := fun e => nI_pos h (by rw [e]; decide)
theorem ladF_st {N : Nat → Int32} (w : wC N) (h3 : kN N 3 ≤ 8) : ∀ (b c f g : Nat) (a : Int32), c ≤ b → c < kN N 3 → c + 1 ≤ f → c + 1 ≤ g → ladF N f (nI c) a = ladF N g (nI c) a := by
  intro b
  induction b with
  | zero =>
    intro c f g a hb hc hf hg
    obtain ⟨f, rfl⟩ : ∃ f', f = f' + 1 := ⟨f - 1, by omega⟩
    obtain ⟨g, rfl⟩ : ∃ g', g = g' + 1 := ⟨g - 1, by omega⟩
    unfold ladF
    rw [if_neg (nI_nm1 (by omega)), if_neg (nI_nm1 (by omega)), nI_clamp (by omega)]
    by_cases e : N (11 + 9 * c) = -1
    · rw [if_pos e, if_pos e]
    · rw [if_neg e, if_neg e]
      rcases (w c hc).2.2 with q | q
      · rw [q, ladF_m1, ladF_m1]
      · omega
  | succ b ih =>
    intro c f g a hb hc hf hg
    obtain ⟨f, rfl⟩ : ∃ f', f = f' + 1 := ⟨f - 1, by omega⟩
    obtain ⟨g, rfl⟩ : ∃ g', g = g' + 1 := ⟨g - 1, by omega⟩
    unfold ladF
    rw [if_neg (nI_nm1 (by omega)), if_neg (nI_nm1 (by omega)), nI_clamp (by omega)]
    by_cases e : N (11 + 9 * c) = -1
    · rw [if_pos e, if_pos e]
    · rw [if_neg e, if_neg e]
      rcases (w c hc).2.2 with q | q
      · rw [q, ladF_m1, ladF_m1]
      · rw [q.1.1]
        exact ih _ f g _ (by omega) (by omega) (by omega) (by omega)
section CRd2
variable {F : Nat} {S : St} {n p : Nat} {N B : Nat → Int32}
theorem e_usage (C : Cl0 S n p N B) (hs : SpF S p) {u : Nat} (hu : u < kN N 4) (hF : 1000 ≤ F) : f_X8_usageOf F S p (nI u) = some (usN N u, S) := by
  have b7 := C.wb.n7.2
  have q1 := C.s705
  unfold f_X8_usageOf usN
  refine loopR0 (fun fu k a => f_X8_usageOf_L4 F fu S p (nI u) a (nI k)) (kN N 7) _ (fun a => (a, S)) 0 (by omega) (fun fu a => ?_) (fun fu k a hk => ?_)
  · simp (disch := first | assumption | omega) only [ob_some, lt_eq, sm_l, sm_r, os_s, os_n, cki_nI, cki_0, cki_1, ck_bI, nI_clamp, cl0, cl1, nI_add, nI_mul, nI_1, nI_a0, nI_0a, nI_1a, nI_1m, aL2, La2, mL2, cL2, kL2, aL3, La3, mL3, cL3, kL3, aL4, La4, mL4, cL4, kL4, aL5, La5, mL5, cL5, kL5, aL6, La6, mL6, cL6, kL6, aL7, La7, mL7, cL7, kL7, aL8, La8, mL8, cL8, kL8, aL9, La9, mL9, cL9, kL9, aL10, La10, mL10, cL10, kL10, aL11, La11, mL11, cL11, kL11, aL12, La12, mL12, cL12, kL12, aL13, La13, mL13, cL13, kL13, aL14, La14, mL14, cL14, kL14, aL15, La15, mL15, cL15, kL15, aL16, La16, mL16, cL16, kL16, aL20, La20, mL20, cL20, kL20, aL21, La21, mL21, cL21, kL21, aL24, La24, mL24, cL24, kL24, aL27, La27, mL27, cL27, kL27, aL30, La30, mL30, cL30, kL30, aL31, La31, mL31, cL31, kL31, aL32, La32, mL32, cL32, kL32, aL48, La48, mL48, cL48, kL48, aL60, La60, mL60, cL60, kL60, aL83, La83, mL83, cL83, kL83, aL97, La97, mL97, cL97, kL97, aL99, La99, mL99, cL99, kL99, aL120, La120, mL120, cL120, kL120, aL122, La122, mL122, cL122, kL122, aL124, La124, mL124, cL124, kL124, aL163, La163, mL163, cL163, kL163, aL177, La177, mL177, cL177, kL177, aL200, La200, mL200, cL200, kL200, aL205, La205, mL205, cL205, kL205, aL255, La255, mL255, cL255, kL255, aL331, La331, mL331, cL331, kL331, aL480, La480, mL480, cL480, kL480, aL999, La999, mL999, cL999, kL999, aL1171, La1171, mL1171, cL1171, kL1171, aL1200, La1200, mL1200, cL1200, kL1200, aL2000, La2000, mL2000, cL2000, kL2000, aL4771, La4771, mL4771, cL4771, kL4771, aL6211, La6211, mL6211, cL6211, kL6211, aL6214, La6214, mL6214, cL6214, kL6214, aL6391, La6391, mL6391, cL6391, kL6391, aL8000, La8000, mL8000, cL8000, kL8000, aL9999, La9999, mL9999, cL9999, kL9999, aL20000, La20000, mL20000, cL20000, kL20000, aL96000, La96000, mL96000, cL96000, kL96000, nI_leI, nI_ltI, ne_bI, eq_bI, if_pos, if_neg, f_X8_usageOf_L4, q1]
  · obtain ⟨j, j1, j2⟩ := e_msgAt (F := F) C hs hk
    obtain ⟨j', k1, -, -, -, -, -, k2, -⟩ := C.cm k hk
    rw [j1] at k1
    cases k1
    have k2' : si S 302 j = nI (szN N k) := k2
    simp (disch := first | assumption | omega) only [ob_some, lt_eq, sm_l, sm_r, os_s, os_n, cki_nI, cki_0, cki_1, ck_bI, nI_clamp, cl0, cl1, nI_add, nI_mul, nI_1, nI_a0, nI_0a, nI_1a, nI_1m, aL2, La2, mL2, cL2, kL2, aL3, La3, mL3, cL3, kL3, aL4, La4, mL4, cL4, kL4, aL5, La5, mL5, cL5, kL5, aL6, La6, mL6, cL6, kL6, aL7, La7, mL7, cL7, kL7, aL8, La8, mL8, cL8, kL8, aL9, La9, mL9, cL9, kL9, aL10, La10, mL10, cL10, kL10, aL11, La11, mL11, cL11, kL11, aL12, La12, mL12, cL12, kL12, aL13, La13, mL13, cL13, kL13, aL14, La14, mL14, cL14, kL14, aL15, La15, mL15, cL15, kL15, aL16, La16, mL16, cL16, kL16, aL20, La20, mL20, cL20, kL20, aL21, La21, mL21, cL21, kL21, aL24, La24, mL24, cL24, kL24, aL27, La27, mL27, cL27, kL27, aL30, La30, mL30, cL30, kL30, aL31, La31, mL31, cL31, kL31, aL32, La32, mL32, cL32, kL32, aL48, La48, mL48, cL48, kL48, aL60, La60, mL60, cL60, kL60, aL83, La83, mL83, cL83, kL83, aL97, La97, mL97, cL97, kL97, aL99, La99, mL99, cL99, kL99, aL120, La120, mL120, cL120, kL120, aL122, La122, mL122, cL122, kL122, aL124, La124, mL124, cL124, kL124, aL163, La163, mL163, cL163, kL163, aL177, La177, mL177, cL177, kL177, aL200, La200, mL200, cL200, kL200, aL205, La205, mL205, cL205, kL205, aL255, La255, mL255, cL255, kL255, aL331, La331, mL331, cL331, kL331, aL480, La480, mL480, cL480, kL480, aL999, La999, mL999, cL999, kL999, aL1171, La1171, mL1171, cL1171, kL1171, aL1200, La1200, mL1200, cL1200, kL1200, aL2000, La2000, mL2000, cL2000, kL2000, aL4771, La4771, mL4771, cL4771, kL4771, aL6211, La6211, mL6211, cL6211, kL6211, aL6214, La6214, mL6214, cL6214, kL6214, aL6391, La6391, mL6391, cL6391, kL6391, aL8000, La8000, mL8000, cL8000, kL8000, aL9999, La9999, mL9999, cL9999, kL9999, aL20000, La20000, mL20000, cL20000, kL20000, aL96000, La96000, mL96000, cL96000, kL96000, nI_leI, nI_ltI, ne_bI, eq_bI, f_X8_usageOf_L4, f_X8_usageOf_L32, q1, e_state C hs hk hu, j2, k2']
    rw [if_neg (by omega)]
    by_cases e : stN N k u = 0
    · rw [if_neg (fun z => z e), if_pos e]
    · rw [if_pos e, if_neg e]
/-! .. of the store -/
theorem e_isStoredX (C : Cl0 S n p N B) (hs : SpF S p) (x : Int32) : f_X9_isStored F S (p + 6) x = some (bI ((0 ≤ x ∧ x < N 8) ∧ isN N x.toNatClampNeg = 1), S) := by
  have w := C.wb
  have b8 := w.n8.2
  unfold f_X9_isStored
  by_cases c1 : x < 0
  · rw [if_pos c1, bI_f (fun z => (le_nlt.mp z.1.1) c1)]
  rw [if_neg c1, C.cp.1.1]
  by_cases c2 : N 8 ≤ x
  · rw [if_pos c2, bI_f (fun z => (le_nlt.mp c2) z.1.2)]
  rw [if_neg c2, hs.r806_6, ob_some]
  have c3 : 0 ≤ x ∧ x < nI (kN N 8) := ⟨le_nlt.mpr c1, by rw [le_nlt] at c2; rw [← w.n8.1]; exact Classical.not_not.mp c2⟩
  obtain ⟨q, hq, rfl⟩ := ix (by omega) c3
  rw [nI_clamp (by omega), e_at (by rw [hs.l10]; omega) (by rw [hs.l10]; omega), ob_some, lt_eq, lt_eq, (C.cp.2 q hq).2.2.2]
  have d := (w.wP q hq).2.2.2.1
  by_cases e : isN N q = 1
  · rw [if_pos e, bI_t ⟨by rw [w.n8.1]; exact c3, e⟩, if_neg]
    intro z
    rcases d with d | d
    · rw [d] at z; exact absurd (show (-1 : Int32) = -2 from z) (by decide)
    · have := d.1
      have b := d.1.2
      unfold deN at z
      rw [d.1.1] at z
      have z' : nI (kN N (4773 + 3 * q)) = -2 := z
      exact nI_pos (n := kN N (4773 + 3 * q)) (by omega) (by rw [z']; decide)
  · rw [if_neg e, bI_f (fun z => e z.2), if_pos rfl]
theorem e_isStored (C : Cl0 S n p N B) (hs : SpF S p) {q : Nat} (hq : q < kN N 8) : f_X9_isStored F S (p + 6) (nI q) = some (bI (isN N q = 1), S) := by
  have b8 := C.wb.n8.2
  rw [e_isStoredX C hs, nI_clamp (by omega), C.wb.n8.1, bI_congr (q := isN N q = 1) ⟨fun z => z.2, fun z => ⟨⟨nI_pos' (by omega), nI_lt hq (by omega)⟩, z⟩⟩]
theorem e_isDead (C : Cl0 S n p N B) (hs : SpF S p) {q : Nat} (hq : q < kN N 8) : f_X9_isDead F S (p + 6) (nI q) = some (bI (isN N q = 1 ∧ ¬ deN N q = -1), S) := by
  have b8 := C.wb.n8.2
  unfold f_X9_isDead
  rw [e_isStored C hs hq, ob_some]
  simp only [lt_eq, eq_bI]
  by_cases e : isN N q = 1
  · rw [if_pos e, hs.r806_6, ob_some, e_at (by rw [hs.l10]; omega) (by rw [hs.l10]; omega), ob_some, (C.cp.2 q hq).2.2.2, if_pos e]
    by_cases d : deN N q = -1
    · rw [if_pos d, bI_f (fun z => z.2 d)]
    · rw [if_neg d, bI_t ⟨e, d⟩]
  · rw [if_neg e, bI_f (fun z => e z.1)]
theorem e_bytesOf (C : Cl0 S n p N B) (hs : SpF S p) {q : Nat} (hq : q < kN N 8) : ∃ j, f_X9_bytesOf F S (p + 6) (nI q) = some (some j, S) ∧ dyn n j 2 ∧ sr S 0 j = some (j + 1) ∧ ln S (j + 1) = kN N (4771 + 3 * q) ∧ si S 1 j = nI (kN N (4771 + 3 * q)) ∧ ∀ k, k < kN N (4771 + 3 * q) → ai S (j + 1) k = B (200 * q + k) := by
  have w := C.wb
  have b8 := w.n8.2
  obtain ⟨⟨j, g1, g2, g3, g4, g5, g6⟩, -⟩ := C.cp.2 q hq
  refine ⟨j, ?_, g2, g3, g4, g5.trans (w.wP q hq).1.1, g6⟩
  unfold f_X9_bytesOf f_X9_bytesOf_L31
  rw [if_neg (nI_pos (by omega)), C.cp.1.1, w.n8.1, if_neg (nI_ge hq (by omega)), hs.r803_6, ob_some, hs.l7, if_neg (nI_ge (by omega) (by omega)), ob_some, hs.l7, cki_nI (by omega) (by omega), nI_clamp (by omega), g1, os_s]
  rfl
end CRd2
