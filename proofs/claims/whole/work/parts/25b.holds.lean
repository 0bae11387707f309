/-! a loop with an invariant -/
theorem loopE {α β : Type} (L : Nat → Nat → α → Option β) (n : Nat) (I : Nat → α → Prop) (Q : β → Prop) (hstop : ∀ fu a, I n a → ∃ b, L (fu + 1) n a = some b ∧ Q b)
    (hstep : ∀ fu k a, k < n → I k a → (∃ b, L (fu + 1) k a = some b ∧ Q b) ∨ ∃ a', I (k + 1) a' ∧ L (fu + 1) k a = L fu (k + 1) a') : ∀ fu k a, k ≤ n → n - k < fu → I k a → ∃ b, L fu k a = some b ∧ Q b := by
  intro fu
  induction fu with
  | zero => intro k a _ h; exact absurd h (Nat.not_lt_zero _)
  | succ fu ih =>
    intro k a hk hf hI
    rcases Nat.lt_or_ge k n with h | h
    · rcases hstep fu k a h hI with q | ⟨a', h1, h2⟩
      · exact q
      · rw [h2]; exact ih (k + 1) a' (by omega) (by omega) h1
    · have e : k = n := by omega
      subst e
      exact hstop fu a hI
/-- what the model's calls write: its own words but some, its own arrays but some -/
def MFr (S T : St) : Prop := (∀ f i, sr T f i = sr S f i) ∧ (∀ f i, ¬ i = 197 → si T f i = si S f i) ∧ (∀ f, (f = 1005 ∨ f = 1007 ∨ f = 1013 ∨ f = 1014 ∨ f = 1029) → si T f 197 = si S f 197) ∧ (∀ i, ¬ (198 ≤ i ∧ i ≤ 200) → ¬ (202 ≤ i ∧ i ≤ 208) → ai T i = ai S i) ∧ al T = al S ∧ ar T = ar S ∧ ln T = ln S
theorem MFr.rf (S : St) : MFr S S := ⟨fun _ _ => rfl, fun _ _ _ => rfl, fun _ _ => rfl, fun _ _ _ => rfl, rfl, rfl, rfl⟩
theorem MFr.tr {S T U : St} (h : MFr S T) (g : MFr T U) : MFr S U := ⟨fun f i => (g.1 f i).trans (h.1 f i), fun f i q => (g.2.1 f i q).trans (h.2.1 f i q), fun f q => (g.2.2.1 f q).trans (h.2.2.1 f q), fun i q r => (g.2.2.2.1 i q r).trans (h.2.2.2.1 i q r), g.2.2.2.2.1.trans h.2.2.2.2.1, g.2.2.2.2.2.1.trans h.2.2.2.2.2.1, g.2.2.2.2.2.2.trans h.2.2.2.2.2.2⟩
theorem MFr.ui {S : St} {f : Nat} (v : Int32) (h : ¬ (f = 1005 ∨ f = 1007 ∨ f = 1013 ∨ f = 1014 ∨ f = 1029)) : MFr S (ui S f 197 v) := ⟨fun _ _ => rfl, fun f' i q => by rw [si_ui, if_neg (fun z => q z.2)], fun f' q => by rw [si_ui, if_neg (fun z => h (by rw [← z.1]; exact q))], fun _ _ _ => rfl, rfl, rfl, rfl⟩
theorem MFr.uai {S : St} {i k : Nat} (v : Int32) (h : (198 ≤ i ∧ i ≤ 200) ∨ (202 ≤ i ∧ i ≤ 208)) : MFr S (uai S i k v) := ⟨fun _ _ => rfl, fun _ _ _ => rfl, fun _ _ => rfl, fun j q r => by funext z; rw [ai_uai, if_neg (by omega)], rfl, rfl, rfl⟩
theorem MFr.fx {S T : St} (h : MFr S T) (x : FxF S) : FxF T := by
  obtain ⟨h1, h2, h3, h4⟩ := x
  refine ⟨fun q hq => by rw [h.1]; exact h1 q hq, fun q hq => by rw [h.2.2.2.2.2.2]; exact h2 q hq, fun p hp => ⟨fun q hq => by rw [h.1]; exact (h3 p hp).1 q hq, fun q hq => by rw [h.2.2.2.2.2.2]; exact (h3 p hp).2 q hq⟩, fun i hi => by rw [h.2.2.2.2.2.1]; exact h4 i hi⟩
/-- only places of work are written, and neither the law's nor the model's word of what was thrown -/
def ScX (S T : St) : Prop := (∀ i, 204 ≤ i → i ≤ 206 → ai T i = ai S i) ∧ si T 1021 197 = si S 1021 197 ∧ si T 1022 197 = si S 1022 197
def Sc (S T : St) : Prop := Eqv S T ∧ al T = al S ∧ si T 1000 197 = si S 1000 197 ∧ MFr S T ∧ ScX S T
theorem Sc.rf (S : St) : Sc S S := ⟨Eqv.rf S, rfl, rfl, MFr.rf S, fun _ _ _ => rfl, rfl, rfl⟩
theorem Sc.tr {S T U : St} (h : Sc S T) (g : Sc T U) : Sc S U := ⟨h.1.tr g.1, g.2.1.trans h.2.1, g.2.2.1.trans h.2.2.1, h.2.2.2.1.tr g.2.2.2.1, fun i a b => (g.2.2.2.2.1 i a b).trans (h.2.2.2.2.1 i a b), g.2.2.2.2.2.1.trans h.2.2.2.2.2.1, g.2.2.2.2.2.2.trans h.2.2.2.2.2.2⟩
theorem Sc.ui {S : St} {f : Nat} (v : Int32) (h : (f, 197) ∈ wkF ∧ ¬ (f = 1005 ∨ f = 1007 ∨ f = 1013 ∨ f = 1014 ∨ f = 1029)) (hf : ¬ (f = 1000 ∨ f = 1021 ∨ f = 1022)) : Sc S (ui S f 197 v) := ⟨Eqv.ui v h.1, rfl, by rw [si_ui, if_neg (fun z => hf (Or.inl z.1.symm))], MFr.ui v h.2, fun _ _ _ => rfl, by rw [si_ui, if_neg (fun z => hf (Or.inr (Or.inl z.1.symm)))], by rw [si_ui, if_neg (fun z => hf (Or.inr (Or.inr z.1.symm)))]⟩
theorem Sc.uai {S : St} {i k : Nat} (v : Int32) (h : i ∈ wkA ∧ ((198 ≤ i ∧ i ≤ 200) ∨ (202 ≤ i ∧ i ≤ 203))) : Sc S (uai S i k v) := ⟨Eqv.uai v h.1, rfl, rfl, MFr.uai v (by omega), fun j a b => by funext z; rw [ai_uai, if_neg (by omega)], rfl, rfl⟩
theorem Sc.fx {S T : St} (h : Sc S T) (x : FxF S) : FxF T := x.eqv h.1
theorem Sc.n {S T : St} (h : Sc S T) : ai T 198 = ai S 198 := h.1.net
theorem Sc.b {S T : St} (h : Sc S T) : ai T 200 = ai S 200 := h.1.bytes
theorem bits_s (P : Nat → Prop) (k : Nat) : bitsN P (k + 1) = pif (P k) (bitsN P k ||| 2 ^ k) (bitsN P k) := rfl
/-! the model looks for a word -/
section MW
variable {F : Nat} {S : St}
theorem m_byte (hx : FxF S) {q k : Nat} (h : 200 * q + k < 96000) : f_X11_partByteAt F S 197 (nI q) (nI k) = some (ai S 200 (200 * q + k), S) := by
  simp (disch := first | assumption | omega) only [ob_some, lt_eq, sm_l, sm_r, os_s, os_n, cki_nI, cki_0, cki_1, ck_bI, nI_clamp, cl0, cl1, nI_add, nI_mul, nI_1, nI_a0, nI_0a, nI_1a, nI_1m, aL2, La2, mL2, cL2, kL2, aL3, La3, mL3, cL3, kL3, aL4, La4, mL4, cL4, kL4, aL5, La5, mL5, cL5, kL5, aL6, La6, mL6, cL6, kL6, aL7, La7, mL7, cL7, kL7, aL8, La8, mL8, cL8, kL8, aL9, La9, mL9, cL9, kL9, aL10, La10, mL10, cL10, kL10, aL11, La11, mL11, cL11, kL11, aL12, La12, mL12, cL12, kL12, aL13, La13, mL13, cL13, kL13, aL14, La14, mL14, cL14, kL14, aL15, La15, mL15, cL15, kL15, aL16, La16, mL16, cL16, kL16, aL20, La20, mL20, cL20, kL20, aL21, La21, mL21, cL21, kL21, aL24, La24, mL24, cL24, kL24, aL27, La27, mL27, cL27, kL27, aL30, La30, mL30, cL30, kL30, aL31, La31, mL31, cL31, kL31, aL32, La32, mL32, cL32, kL32, aL48, La48, mL48, cL48, kL48, aL60, La60, mL60, cL60, kL60, aL83, La83, mL83, cL83, kL83, aL97, La97, mL97, cL97, kL97, aL99, La99, mL99, cL99, kL99, aL120, La120, mL120, cL120, kL120, aL122, La122, mL122, cL122, kL122, aL124, La124, mL124, cL124, kL124, aL163, La163, mL163, cL163, kL163, aL177, La177, mL177, cL177, kL177, aL200, La200, mL200, cL200, kL200, aL205, La205, mL205, cL205, kL205, aL255, La255, mL255, cL255, kL255, aL331, La331, mL331, cL331, kL331, aL480, La480, mL480, cL480, kL480, aL999, La999, mL999, cL999, kL999, aL1171, La1171, mL1171, cL1171, kL1171, aL1200, La1200, mL1200, cL1200, kL1200, aL2000, La2000, mL2000, cL2000, kL2000, aL4771, La4771, mL4771, cL4771, kL4771, aL6211, La6211, mL6211, cL6211, kL6211, aL6214, La6214, mL6214, cL6214, kL6214, aL6391, La6391, mL6391, cL6391, kL6391, aL8000, La8000, mL8000, cL8000, kL8000, aL9999, La9999, mL9999, cL9999, kL9999, aL20000, La20000, mL20000, cL20000, kL20000, aL96000, La96000, mL96000, cL96000, kL96000, nI_leI, nI_ltI, ne_bI, eq_bI, if_pos, if_neg, f_X11_partByteAt, hx.r1003_197, hx.l200]
theorem m_isLet {B : Nat → Int32} (hx : FxF S) (w : WB (ai S 198) B) {q k : Nat} (hq : q < kN (ai S 198) 8) (hk : k < 400) : f_X11_isLetterIn F S 197 (nI q) (nI k) = some (pI (k < kN (ai S 198) (4771 + 3 * q) ∧ letB (ai S 200 (200 * q + k))), S) := by
  have b8 := w.n8.2
  have bl := (w.wP q hq).1.2
  have ql : lenN (ai S 198) q = nI (kN (ai S 198) (4771 + 3 * q)) := (w.wP q hq).1.1
  unfold f_X11_isLetterIn
  rw [if_neg (nI_pos (by omega)), m_len hx (by omega), ob_some, ql]
  simp only [lt_eq]
  by_cases c : k < kN (ai S 198) (4771 + 3 * q)
  · rw [if_neg (nI_ge c (by omega)), m_byte hx (by omega), ob_some]
    simp only [lt_eq]
    rw [show (97 : Int64) = (97 : Int32).toInt64 from rfl, show (122 : Int64) = (122 : Int32).toInt64 from rfl, e_in, ob_some]
    simp only [lt_eq]
    by_cases l : letB (ai S 200 (200 * q + k))
    · rw [bI_t (show 97 ≤ ai S 200 (200 * q + k) ∧ ai S 200 (200 * q + k) ≤ 122 from l), if_neg (by decide), pI_t ⟨c, l⟩]
    · rw [bI_f (show ¬ (97 ≤ ai S 200 (200 * q + k) ∧ ai S 200 (200 * q + k) ≤ 122) from l), if_pos rfl, pI_f (fun z => l z.2)]
  · rw [if_pos (nI_le (by omega) (by omega)), pI_f (fun z => c z.1)]
theorem m_isLetM {q : Int32} : f_X11_isLetterIn F S 197 q (-1) = some (0, S) := by
  unfold f_X11_isLetterIn
  rw [if_pos (by decide)]
theorem m_wordEnd {c : Nat} (q k : Int32) (hc : si S 1016 197 = nI c) (hF : 1000 ≤ F) : f_X11_isWordAt_L34 F F S 197 q k 0 0 = some (0, S) := by
  obtain ⟨F', rfl⟩ : ∃ f, F = f + 1 := ⟨F - 1, by omega⟩
  show f_X11_isWordAt_L34 (F' + 1) (F' + 1) S 197 q k 0 0 = _
  unfold f_X11_isWordAt_L34
  by_cases z : si S 1016 197 ≤ 0
  · rw [if_pos z, ck_t (Or.inl rfl)]
  · rw [if_neg z, if_pos rfl, ck_t (Or.inl rfl)]
theorem m_isWordAt {B : Nat → Int32} (hx : FxF S) (w : WB (ai S 198) B) {q k c : Nat} {wl : Nat → Int32} (hq : q < kN (ai S 198) 8) (hc : si S 1016 197 = nI c) (hc2 : c ≤ 10) (hw : ∀ i, i < c → ai S 202 i = wl i ∧ letB (wl i)) (hk : k + c ≤ kN (ai S 198) (4771 + 3 * q)) (hF : 1000 ≤ F) :
    f_X11_isWordAt F S 197 (nI q) (nI k) = some (pI (atB (ai S 198) (ai S 200) q wl c k), S) := by
  have b8 := w.n8.2
  have bl := (w.wP q hq).1.2
  have g : ∀ d j fu, j + d = c → d + 1 < fu → f_X11_isWordAt_L34 F fu S 197 (nI q) (nI k) 1 (nI j) = some (pI (∀ i, j ≤ i → i < c → ai S 200 (200 * q + k + i) = wl i), S) := by
    intro d
    induction d with
    | zero =>
      intro j fu hj hfu
      obtain ⟨fu, rfl⟩ : ∃ f', fu = f' + 1 := ⟨fu - 1, by omega⟩
      unfold f_X11_isWordAt_L34
      rw [hc, if_pos (nI_le (by omega) (by omega)), ck_t (Or.inr rfl), pI_t (fun i h1 h2 => by omega)]
    | succ d ih =>
      intro j fu hj hfu
      obtain ⟨fu, rfl⟩ : ∃ f', fu = f' + 1 := ⟨fu - 1, by omega⟩
      unfold f_X11_isWordAt_L34 f_X11_isWordAt_L82 f_X11_isWordAt_L83
      rw [hc, if_neg (nI_ge (by omega) (by omega)), if_neg (by decide), nI_add, m_isLet hx w hq (by omega), ob_some]
      simp only [lt_eq, nI_1]
      obtain ⟨w1, w2⟩ := hw j (by omega)
      have stop : ∀ v, f_X11_isWordAt_L34 F fu S 197 (nI q) (nI k) 0 v = some (0, S) := by
        intro v
        obtain ⟨fu, rfl⟩ : ∃ f', fu = f' + 1 := ⟨fu - 1, by omega⟩
        unfold f_X11_isWordAt_L34
        by_cases z : si S 1016 197 ≤ v
        · rw [if_pos z, ck_t (Or.inl rfl)]
        · rw [if_neg z, if_pos rfl, ck_t (Or.inl rfl)]
      have ad : 200 * q + (k + j) = 200 * q + k + j := by omega
      by_cases e : ai S 200 (200 * q + k + j) = wl j
      · rw [pI_t ⟨by omega, by rw [ad, e]; exact w2⟩, if_neg (by decide), m_byte hx (by omega), ob_some]
        try simp only []
        rw [hx.r1015_197, ob_some, hx.l202, cki_nI (by omega) (by omega), nI_clamp (by omega), w1, ad, if_neg (fun z => z e)]
        try simp only []
        rw [ih (j + 1) fu (by omega) (by omega), pI_c]
        constructor
        · intro h i h1 h2
          by_cases z : i = j
          · subst z; exact e
          · exact h i (by omega) h2
        · intro h i h1 h2
          exact h i (by omega) h2
      · rw [pI_f (P := ∀ i, j ≤ i → i < c → ai S 200 (200 * q + k + i) = wl i) (fun h => e (h j (Nat.le_refl _) (by omega)))]
        by_cases l : letB (ai S 200 (200 * q + (k + j)))
        · rw [pI_t ⟨by omega, l⟩, if_neg (by decide), m_byte hx (by omega), ob_some]
          try simp only []
          rw [hx.r1015_197, ob_some, hx.l202, cki_nI (by omega) (by omega), nI_clamp (by omega), w1, ad, if_pos e]
          exact stop _
        · rw [pI_f (fun z => l z.2), if_pos rfl]
          exact stop _
  have all : f_X11_isWordAt_L34 F F S 197 (nI q) (nI k) 1 0 = some (pI (∀ i, i < c → ai S 200 (200 * q + k + i) = wl i), S) := by
    rw [show (0 : Int32) = nI 0 from rfl, g c 0 F (by omega) (by omega), pI_c]
    exact ⟨fun h i h1 => h i (Nat.zero_le _) h1, fun h i _ h1 => h i h1⟩
  have ends : f_X11_isLetterIn F S 197 (nI q) (nI (k + c)) = some (pI (¬ (k + c = kN (ai S 198) (4771 + 3 * q) ∨ ¬ letB (ai S 200 (200 * q + k + c)))), S) := by
    rw [m_isLet hx w hq (by omega), pI_c (Q := ¬ (k + c = kN (ai S 198) (4771 + 3 * q) ∨ ¬ letB (ai S 200 (200 * q + k + c))))]
    rw [show 200 * q + (k + c) = 200 * q + k + c by omega]
    constructor
    · rintro ⟨h1, h2⟩ (z | z)
      · omega
      · exact z h2
    · intro h
      have h1 : ¬ k + c = kN (ai S 198) (4771 + 3 * q) := fun z => h (Or.inl z)
      exact ⟨by omega, Classical.not_not.mp (fun z => h (Or.inr z))⟩
  have begs : f_X11_isLetterIn F S 197 (nI q) (nI k - 1) = some (pI (¬ (k = 0 ∨ ¬ letB (ai S 200 (200 * q + k - 1)))), S) := by
    by_cases z : k = 0
    · subst z
      rw [show nI 0 - 1 = (-1 : Int32) by decide, m_isLetM, pI_f (fun y => y (Or.inl rfl))]
    · obtain ⟨k', rfl⟩ : ∃ k', k = k' + 1 := ⟨k - 1, by omega⟩
      rw [nI_pred, m_isLet hx w hq (by omega), pI_c (Q := ¬ (k' + 1 = 0 ∨ ¬ letB (ai S 200 (200 * q + (k' + 1) - 1))))]
      rw [show 200 * q + (k' + 1) - 1 = 200 * q + k' by omega]
      exact ⟨fun h y => by rcases y with y | y; omega; exact y h.2, fun h => ⟨by omega, Classical.not_not.mp (fun y => h (Or.inr y))⟩⟩
  unfold f_X11_isWordAt f_X11_isWordAt_L29 f_X11_isWordAt_L30
  rw [begs, ob_some]
  simp only [lt_eq, pI_n0]
  by_cases h1 : k = 0 ∨ ¬ letB (ai S 200 (200 * q + k - 1))
  · rw [pif_f (fun z => z h1), hc, nI_add, ends, ob_some]
    simp only [pI_n0]
    by_cases h2 : k + c = kN (ai S 198) (4771 + 3 * q) ∨ ¬ letB (ai S 200 (200 * q + k + c))
    · rw [pif_f (fun z => z h2), all, pI_c]
      exact ⟨fun h => ⟨hk, h, h1, h2⟩, fun h => h.2.1⟩
    · rw [pif_t h2, m_wordEnd _ _ hc hF, pI_f (fun z => h2 z.2.2.2)]
  · rw [pif_t h1, m_wordEnd _ _ hc hF, pI_f (fun z => h1 z.2.2.1)]
theorem m_contains {B : Nat → Int32} (hx : FxF S) (w : WB (ai S 198) B) {m c : Nat} {wl : Nat → Int32} (hm : m < kN (ai S 198) 7) (hc : si S 1016 197 = nI c) (hc2 : c ≤ 10) (hw : ∀ i, i < c → ai S 202 i = wl i ∧ letB (wl i)) (hF : 1000 ≤ F) :
    f_X11_contains F S 197 (nI m) = some (pI (contB (ai S 198) (ai S 200) m wl c), S) := by
  have b7 := w.n7.2
  have b8 := w.n8.2
  obtain ⟨-, -, -, h4, -, h5⟩ := w.wM m hm
  have q4 : ai S 198 (333 + 7 * m) = nI (manyN (ai S 198) m) := h4.1
  have b4 : manyN (ai S 198) m ≤ 4 := h4.2
  have inner : ∀ (k2 : St → Nat → Int32 → Int32 → Option (Int32 × St)) (i q : Nat), q < kN (ai S 198) 8 → ∀ d k fu, k + d = 201 → d < fu → f_X11_contains_L24 F k2 fu S 197 (nI m) (nI i) (nI q) (nI k) = pif (∃ k', k ≤ k' ∧ atB (ai S 198) (ai S 200) q wl c k') (some (1, S)) (k2 S 197 (nI m) (nI (i + 1))) := by
    intro k2 i q hq d
    have bl := (w.wP q hq).1.2
    have ql : lenN (ai S 198) q = nI (kN (ai S 198) (4771 + 3 * q)) := (w.wP q hq).1.1
    have out : ∀ k fu, ¬ k + c ≤ kN (ai S 198) (4771 + 3 * q) → k ≤ 201 → f_X11_contains_L24 F k2 (fu + 1) S 197 (nI m) (nI i) (nI q) (nI k) = pif (∃ k', k ≤ k' ∧ atB (ai S 198) (ai S 200) q wl c k') (some (1, S)) (k2 S 197 (nI m) (nI (i + 1))) := by
      intro k fu hk hk2
      unfold f_X11_contains_L24
      rw [m_len hx (by omega), ob_some, hc, ql]
      simp only [lt_eq, nI_add]
      rw [if_pos (nI_lt (by omega) (by omega)), nI_1, pif_f]
      rintro ⟨k', h1, h2⟩
      have := h2.1
      omega
    induction d with
    | zero =>
      intro k fu hk hfu
      obtain ⟨fu, rfl⟩ : ∃ f', fu = f' + 1 := ⟨fu - 1, by omega⟩
      exact out k fu (by omega) (by omega)
    | succ d ih =>
      intro k fu hk hfu
      obtain ⟨fu, rfl⟩ : ∃ f', fu = f' + 1 := ⟨fu - 1, by omega⟩
      by_cases hkc : k + c ≤ kN (ai S 198) (4771 + 3 * q)
      · unfold f_X11_contains_L24
        rw [m_len hx (by omega), ob_some, hc, ql]
        simp only [lt_eq, nI_add]
        rw [if_neg (nI_nlt (by omega) (by omega)), m_isWordAt hx w hq hc hc2 hw hkc hF, ob_some]
        simp only [pI_e0]
        by_cases z : atB (ai S 198) (ai S 200) q wl c k
        · rw [pif_t z, pif_t ⟨k, Nat.le_refl _, z⟩]
        · rw [pif_f z, nI_1, ih (k + 1) fu (by omega) (by omega)]
          apply pif_c
          constructor
          · rintro ⟨k', h1, h2⟩; exact ⟨k', by omega, h2⟩
          · rintro ⟨k', h1, h2⟩
            refine ⟨k', ?_, h2⟩
            by_cases y : k' = k
            · subst y; exact absurd h2 z
            · omega
      · exact out k fu hkc (by omega)
  have outer : ∀ d i fu, i + d = manyN (ai S 198) m → d < fu → f_X11_contains_L2 F fu S 197 (nI m) (nI i) = some (pI (∃ i' k, i ≤ i' ∧ i' < manyN (ai S 198) m ∧ atB (ai S 198) (ai S 200) (partN (ai S 198) m i') wl c k), S) := by
    intro d
    induction d with
    | zero =>
      intro i fu hi hfu
      obtain ⟨fu, rfl⟩ : ∃ f', fu = f' + 1 := ⟨fu - 1, by omega⟩
      unfold f_X11_contains_L2
      rw [m_many hx (by omega), ob_some, q4]
      simp only [lt_eq]
      rw [if_pos (nI_le (by omega) (by omega)), pI_f]
      rintro ⟨i', k, h1, h2, -⟩
      omega
    | succ d ih =>
      intro i fu hi hfu
      obtain ⟨fu, rfl⟩ : ∃ f', fu = f' + 1 := ⟨fu - 1, by omega⟩
      have q5 : ai S 198 (334 + 7 * m + i) = nI (partN (ai S 198) m i) := (h5 i (by omega)).1.1
      unfold f_X11_contains_L2
      rw [m_many hx (by omega), ob_some, q4]
      simp only [lt_eq]
      rw [if_neg (nI_ge (by omega) (by omega)), show (3 : Int32) = nI 3 from rfl, nI_add, m_mpart hx (by omega) (by omega), ob_some, q5]
      try simp only []
      rw [show (0 : Int32) = nI 0 from rfl, inner _ i _ (h5 i (by omega)).2 201 0 F (by omega) (by omega)]
      by_cases z : ∃ k', 0 ≤ k' ∧ atB (ai S 198) (ai S 200) (partN (ai S 198) m i) wl c k'
      · obtain ⟨k', h1, h2⟩ := z
        rw [pif_t ⟨k', h1, h2⟩, pI_t ⟨i, k', Nat.le_refl _, by omega, h2⟩]
      · rw [pif_f z]
        try simp only []
        rw [ih (i + 1) fu (by omega) (by omega), pI_c]
        constructor
        · rintro ⟨i', k, h1, h2⟩; exact ⟨i', k, by omega, h2⟩
        · rintro ⟨i', k, h1, h2, h3⟩
          refine ⟨i', k, ?_, h2, h3⟩
          by_cases y : i' = i
          · subst y; exact absurd ⟨k, Nat.zero_le _, h3⟩ z
          · omega
  unfold f_X11_contains
  rw [show (0 : Int32) = nI 0 from rfl, outer (manyN (ai S 198) m) 0 F (by omega) (by omega), pI_c]
  exact ⟨fun ⟨i, k, _, h2, h3⟩ => ⟨i, k, h2, h3⟩, fun ⟨i, k, h2, h3⟩ => ⟨i, k, Nat.zero_le _, h2, h3⟩⟩
theorem m_hld (hx : FxF S) {h w : Nat} (hh : h < 6) (hw : w < 21) : f_X11_holdValue F S 197 (nI h) (nI w) = some (ai S 198 (205 + 21 * h + w), S) := e_hld hx (by omega)
theorem m_isCovered {B : Nat → Int32} (hx : FxF S) (w : WB (ai S 198) B) {m u h : Nat} (hm : m < kN (ai S 198) 7) (hh : h < kN (ai S 198) 6) (hF : 1000 ≤ F) :
    ∃ T, f_X11_isCovered F S 197 (nI m) (nI u) (nI h) = some (pI (covP (ai S 198) (ai S 200) m u h), T) ∧ Sc S T := by
  have b7 := w.n7.2
  have b6 := w.n6.2
  obtain ⟨-, -, -, -, w5, w6, w7⟩ := w.wH h hh
  have h0 := m_hld (F := F) hx (h := h) (w := 0) (by omega) (by omega)
  have h1 := m_hld (F := F) hx (h := h) (w := 1) (by omega) (by omega)
  have h2 := m_hld (F := F) hx (h := h) (w := 2) (by omega) (by omega)
  have h3 := m_hld (F := F) hx (h := h) (w := 3) (by omega) (by omega)
  have h4 := m_hld (F := F) hx (h := h) (w := 4) (by omega) (by omega)
  rw [show 205 + 21 * h + 0 = 205 + 21 * h by omega, show nI 0 = (0 : Int32) from rfl] at h0
  rw [show 205 + 21 * h + 1 = 206 + 21 * h by omega, show nI 1 = (1 : Int32) from rfl] at h1
  rw [show 205 + 21 * h + 2 = 207 + 21 * h by omega, show nI 2 = (2 : Int32) from rfl] at h2
  rw [show 205 + 21 * h + 3 = 208 + 21 * h by omega, show nI 3 = (3 : Int32) from rfl] at h3
  rw [show 205 + 21 * h + 4 = 209 + 21 * h by omega, show nI 4 = (4 : Int32) from rfl] at h4
  have fin : ∀ (N B' : Nat → Int32), N = ai S 198 → B' = ai S 200 → ∀ d k fu T, k + d = 10 → d < fu → FxF T → ai T 198 = N → ai T 200 = B' → si T 1016 197 = N (209 + 21 * h) → (∀ i, i < k → ai T 202 i = N (210 + 21 * h + i)) →
      ∃ T', f_X11_isCovered_L61 F fu T 197 (nI m) (nI h) (nI k) = some (pI (N (209 + 21 * h) = 0 ∨ contB N B' m (fun k => N (210 + 21 * h + k)) (kN N (209 + 21 * h))), T') ∧ Sc T T' := by
    intro N B' eN eB d
    induction d with
    | zero =>
      intro k fu T hk hfu hx aN aB c1 c2
      obtain ⟨fu, rfl⟩ : ∃ f', fu = f' + 1 := ⟨fu - 1, by omega⟩
      have : k = 10 := by omega
      subst this
      subst eN
      subst eB
      unfold f_X11_isCovered_L61
      rw [if_pos (by decide), c1]
      by_cases z : ai S 198 (209 + 21 * h) = 0
      · rw [if_pos z, pI_t (Or.inl z)]
        exact ⟨T, rfl, Sc.rf T⟩
      · rw [if_neg z]
        have wT : WB (ai T 198) B := by rw [aN]; exact w
        have cw := m_contains (F := F) hx wT (m := m) (c := kN (ai S 198) (209 + 21 * h)) (wl := fun k => ai S 198 (210 + 21 * h + k)) (by rw [aN]; exact hm) (by rw [c1]; exact w6.1) w6.2 (fun i hi => ⟨c2 i (by have := w6.2; omega), w7 i hi⟩) hF
        rw [cw, ob_some, aN, aB]
        simp only [lt_eq, pI_e0]
        by_cases y : contB (ai S 198) (ai S 200) m (fun k => ai S 198 (210 + 21 * h + k)) (kN (ai S 198) (209 + 21 * h))
        · rw [pif_t y, pI_t (Or.inr y)]
          exact ⟨T, rfl, Sc.rf T⟩
        · rw [pif_f y, pI_f (fun q => by rcases q with q | q; exact z q; exact y q)]
          exact ⟨T, rfl, Sc.rf T⟩
    | succ d ih =>
      intro k fu T hk hfu hx aN aB c1 c2
      obtain ⟨fu, rfl⟩ : ∃ f', fu = f' + 1 := ⟨fu - 1, by omega⟩
      have hk' := m_hld (F := F) hx (h := h) (w := 5 + k) (by omega) (by omega)
      rw [show 205 + 21 * h + (5 + k) = 210 + 21 * h + k by omega, aN] at hk'
      have s1 : Sc T (uai T 202 k (N (210 + 21 * h + k))) := Sc.uai _ (by decide)
      obtain ⟨T', t1, t2⟩ := ih (k + 1) fu (uai T 202 k (N (210 + 21 * h + k))) (by omega) (by omega) (s1.fx hx) (s1.n.trans aN) (s1.b.trans aB) c1 (fun i hi => by
        rw [ai_uai]
        by_cases z : i = k
        · subst z; rw [if_pos ⟨rfl, rfl⟩]
        · rw [if_neg (fun y => z y.2)]; exact c2 i (by omega))
      refine ⟨T', ?_, s1.tr t2⟩
      rw [← t1]
      simp (disch := first | assumption | omega) only [ob_some, lt_eq, sm_l, sm_r, os_s, os_n, cki_nI, cki_0, cki_1, ck_bI, nI_clamp, cl0, cl1, nI_add, nI_mul, nI_1, nI_a0, nI_0a, nI_1a, nI_1m, aL2, La2, mL2, cL2, kL2, aL3, La3, mL3, cL3, kL3, aL4, La4, mL4, cL4, kL4, aL5, La5, mL5, cL5, kL5, aL6, La6, mL6, cL6, kL6, aL7, La7, mL7, cL7, kL7, aL8, La8, mL8, cL8, kL8, aL9, La9, mL9, cL9, kL9, aL10, La10, mL10, cL10, kL10, aL11, La11, mL11, cL11, kL11, aL12, La12, mL12, cL12, kL12, aL13, La13, mL13, cL13, kL13, aL14, La14, mL14, cL14, kL14, aL15, La15, mL15, cL15, kL15, aL16, La16, mL16, cL16, kL16, aL20, La20, mL20, cL20, kL20, aL21, La21, mL21, cL21, kL21, aL24, La24, mL24, cL24, kL24, aL27, La27, mL27, cL27, kL27, aL30, La30, mL30, cL30, kL30, aL31, La31, mL31, cL31, kL31, aL32, La32, mL32, cL32, kL32, aL48, La48, mL48, cL48, kL48, aL60, La60, mL60, cL60, kL60, aL83, La83, mL83, cL83, kL83, aL97, La97, mL97, cL97, kL97, aL99, La99, mL99, cL99, kL99, aL120, La120, mL120, cL120, kL120, aL122, La122, mL122, cL122, kL122, aL124, La124, mL124, cL124, kL124, aL163, La163, mL163, cL163, kL163, aL177, La177, mL177, cL177, kL177, aL200, La200, mL200, cL200, kL200, aL205, La205, mL205, cL205, kL205, aL255, La255, mL255, cL255, kL255, aL331, La331, mL331, cL331, kL331, aL480, La480, mL480, cL480, kL480, aL999, La999, mL999, cL999, kL999, aL1171, La1171, mL1171, cL1171, kL1171, aL1200, La1200, mL1200, cL1200, kL1200, aL2000, La2000, mL2000, cL2000, kL2000, aL4771, La4771, mL4771, cL4771, kL4771, aL6211, La6211, mL6211, cL6211, kL6211, aL6214, La6214, mL6214, cL6214, kL6214, aL6391, La6391, mL6391, cL6391, kL6391, aL8000, La8000, mL8000, cL8000, kL8000, aL9999, La9999, mL9999, cL9999, kL9999, aL20000, La20000, mL20000, cL20000, kL20000, aL96000, La96000, mL96000, cL96000, kL96000, nI_leI, nI_ltI, ne_bI, eq_bI, f_X11_isCovered_L61, hx.r1015_197, hk', hx.l202]
      rw [show (10 : Int32) = nI 10 from rfl, if_neg (nI_ge (by omega) (by omega))]
  unfold f_X11_isCovered
  rw [h3, ob_some]
  simp only [lt_eq]
  by_cases z1 : ai S 198 (208 + 21 * h) = 0
  · rw [if_pos z1, pI_f (fun y => by have := y.1; rw [z1] at this; exact absurd this (by decide))]
    exact ⟨S, rfl, Sc.rf S⟩
  have z1' : ai S 198 (208 + 21 * h) = 1 := by rcases w5 with q | q; exact absurd q z1; exact q
  rw [if_neg z1, h0, ob_some]
  try simp only []
  by_cases z2 : ai S 198 (205 + 21 * h) = nI u
  rotate_left
  · rw [if_pos z2, pI_f (fun y => z2 y.2.1)]
    exact ⟨S, rfl, Sc.rf S⟩
  rw [if_neg (fun y => y z2), m_mday hx (by omega), ob_some]
  try simp only []
  rw [h1, ob_some]
  try simp only []
  rw [h2, ob_some]
  try simp only []
  rw [e_in, ob_some]
  simp only [ne_bI]
  by_cases z3 : ai S 198 (206 + 21 * h) ≤ ai S 198 (332 + 7 * m) ∧ ai S 198 (332 + 7 * m) ≤ ai S 198 (207 + 21 * h)
  rotate_left
  · rw [if_neg z3, pI_f (fun y => z3 ⟨y.2.2.1, y.2.2.2.1⟩)]
    exact ⟨S, rfl, Sc.rf S⟩
  rw [if_pos z3, h4, ob_some]
  try simp only []
  have s1 : Sc S (ui S 1016 197 (ai S 198 (209 + 21 * h))) := Sc.ui _ (by decide) (by decide)
  obtain ⟨T', t1, t2⟩ := fin (ai S 198) (ai S 200) rfl rfl 10 0 F (ui S 1016 197 (ai S 198 (209 + 21 * h))) (by omega) (by omega) (s1.fx hx) s1.n s1.b rfl (fun i hi => by omega)
  refine ⟨T', ?_, s1.tr t2⟩
  rw [show (0 : Int32) = nI 0 from rfl, t1, pI_c]
  exact ⟨fun y => ⟨z1', z2, z3.1, z3.2, y⟩, fun y => y.2.2.2.2⟩
theorem m_covers {B : Nat → Int32} (hx : FxF S) (w : WB (ai S 198) B) {m u : Nat} (hm : m < kN (ai S 198) 7) (hF : 1000 ≤ F) :
    ∃ T, f_X11_covers F S 197 (nI m) (nI u) = some (nI (covN (ai S 198) (ai S 200) m u), T) ∧ Sc S T := by
  have b6 := w.n6.2
  have q6 := w.n6.1
  unfold f_X11_covers
  have e := loopE (fun fu k (a : Int32 × St) => f_X11_covers_L5 F fu a.2 197 (nI m) (nI u) a.1 (nI k)) (kN (ai S 198) 6) (fun k a => a.1 = nI (bitsN (covP (ai S 198) (ai S 200) m u) k) ∧ Sc S a.2) (fun b => b.1 = nI (covN (ai S 198) (ai S 200) m u) ∧ Sc S b.2) (fun fu a hI => ?_) (fun fu k a hk hI => Or.inr ?_) F 0 (0, S) (by omega) (by omega) ⟨rfl, Sc.rf S⟩
  · obtain ⟨b, h1, h2, h3⟩ := e
    exact ⟨b.2, by rw [← h2]; exact h1, h3⟩
  · obtain ⟨i1, i2⟩ := hI
    refine ⟨(a.1, a.2), ?_, i1, i2⟩
    have x2 := i2.fx hx
    simp (disch := first | assumption | omega) only [ob_some, lt_eq, sm_l, sm_r, os_s, os_n, cki_nI, cki_0, cki_1, ck_bI, nI_clamp, cl0, cl1, nI_add, nI_mul, nI_1, nI_a0, nI_0a, nI_1a, nI_1m, aL2, La2, mL2, cL2, kL2, aL3, La3, mL3, cL3, kL3, aL4, La4, mL4, cL4, kL4, aL5, La5, mL5, cL5, kL5, aL6, La6, mL6, cL6, kL6, aL7, La7, mL7, cL7, kL7, aL8, La8, mL8, cL8, kL8, aL9, La9, mL9, cL9, kL9, aL10, La10, mL10, cL10, kL10, aL11, La11, mL11, cL11, kL11, aL12, La12, mL12, cL12, kL12, aL13, La13, mL13, cL13, kL13, aL14, La14, mL14, cL14, kL14, aL15, La15, mL15, cL15, kL15, aL16, La16, mL16, cL16, kL16, aL20, La20, mL20, cL20, kL20, aL21, La21, mL21, cL21, kL21, aL24, La24, mL24, cL24, kL24, aL27, La27, mL27, cL27, kL27, aL30, La30, mL30, cL30, kL30, aL31, La31, mL31, cL31, kL31, aL32, La32, mL32, cL32, kL32, aL48, La48, mL48, cL48, kL48, aL60, La60, mL60, cL60, kL60, aL83, La83, mL83, cL83, kL83, aL97, La97, mL97, cL97, kL97, aL99, La99, mL99, cL99, kL99, aL120, La120, mL120, cL120, kL120, aL122, La122, mL122, cL122, kL122, aL124, La124, mL124, cL124, kL124, aL163, La163, mL163, cL163, kL163, aL177, La177, mL177, cL177, kL177, aL200, La200, mL200, cL200, kL200, aL205, La205, mL205, cL205, kL205, aL255, La255, mL255, cL255, kL255, aL331, La331, mL331, cL331, kL331, aL480, La480, mL480, cL480, kL480, aL999, La999, mL999, cL999, kL999, aL1171, La1171, mL1171, cL1171, kL1171, aL1200, La1200, mL1200, cL1200, kL1200, aL2000, La2000, mL2000, cL2000, kL2000, aL4771, La4771, mL4771, cL4771, kL4771, aL6211, La6211, mL6211, cL6211, kL6211, aL6214, La6214, mL6214, cL6214, kL6214, aL6391, La6391, mL6391, cL6391, kL6391, aL8000, La8000, mL8000, cL8000, kL8000, aL9999, La9999, mL9999, cL9999, kL9999, aL20000, La20000, mL20000, cL20000, kL20000, aL96000, La96000, mL96000, cL96000, kL96000, nI_leI, nI_ltI, ne_bI, eq_bI, if_pos, if_neg, f_X11_covers_L5, x2.r1001_197, x2.l198, i2.n, q6]
  · obtain ⟨i1, i2⟩ := hI
    have x2 := i2.fx hx
    obtain ⟨T, t1, t2⟩ := m_isCovered (F := F) (S := a.2) (B := B) x2 (by rw [i2.n]; exact w) (m := m) (u := u) (h := k) (by rw [i2.n]; exact hm) (by rw [i2.n]; exact hk) hF
    rw [i2.n, i2.b] at t1
    refine ⟨(nI (bitsN (covP (ai S 198) (ai S 200) m u) (k + 1)), T), ⟨rfl, i2.tr t2⟩, ?_⟩
    simp (disch := first | assumption | omega) only [ob_some, lt_eq, sm_l, sm_r, os_s, os_n, cki_nI, cki_0, cki_1, ck_bI, nI_clamp, cl0, cl1, nI_add, nI_mul, nI_1, nI_a0, nI_0a, nI_1a, nI_1m, aL2, La2, mL2, cL2, kL2, aL3, La3, mL3, cL3, kL3, aL4, La4, mL4, cL4, kL4, aL5, La5, mL5, cL5, kL5, aL6, La6, mL6, cL6, kL6, aL7, La7, mL7, cL7, kL7, aL8, La8, mL8, cL8, kL8, aL9, La9, mL9, cL9, kL9, aL10, La10, mL10, cL10, kL10, aL11, La11, mL11, cL11, kL11, aL12, La12, mL12, cL12, kL12, aL13, La13, mL13, cL13, kL13, aL14, La14, mL14, cL14, kL14, aL15, La15, mL15, cL15, kL15, aL16, La16, mL16, cL16, kL16, aL20, La20, mL20, cL20, kL20, aL21, La21, mL21, cL21, kL21, aL24, La24, mL24, cL24, kL24, aL27, La27, mL27, cL27, kL27, aL30, La30, mL30, cL30, kL30, aL31, La31, mL31, cL31, kL31, aL32, La32, mL32, cL32, kL32, aL48, La48, mL48, cL48, kL48, aL60, La60, mL60, cL60, kL60, aL83, La83, mL83, cL83, kL83, aL97, La97, mL97, cL97, kL97, aL99, La99, mL99, cL99, kL99, aL120, La120, mL120, cL120, kL120, aL122, La122, mL122, cL122, kL122, aL124, La124, mL124, cL124, kL124, aL163, La163, mL163, cL163, kL163, aL177, La177, mL177, cL177, kL177, aL200, La200, mL200, cL200, kL200, aL205, La205, mL205, cL205, kL205, aL255, La255, mL255, cL255, kL255, aL331, La331, mL331, cL331, kL331, aL480, La480, mL480, cL480, kL480, aL999, La999, mL999, cL999, kL999, aL1171, La1171, mL1171, cL1171, kL1171, aL1200, La1200, mL1200, cL1200, kL1200, aL2000, La2000, mL2000, cL2000, kL2000, aL4771, La4771, mL4771, cL4771, kL4771, aL6211, La6211, mL6211, cL6211, kL6211, aL6214, La6214, mL6214, cL6214, kL6214, aL6391, La6391, mL6391, cL6391, kL6391, aL8000, La8000, mL8000, cL8000, kL8000, aL9999, La9999, mL9999, cL9999, kL9999, aL20000, La20000, mL20000, cL20000, kL20000, aL96000, La96000, mL96000, cL96000, kL96000, nI_leI, nI_ltI, ne_bI, eq_bI, f_X11_covers_L5, f_X11_covers_L37, x2.r1001_197, x2.l198, i2.n, q6, t1, pI_e0, i1]
    rw [if_neg (by omega)]
    rw [bits_s]
    by_cases z : covP (ai S 198) (ai S 200) m u k
    · rw [pif_t z, pif_t z, sh1 (by omega), nI_or]
    · rw [pif_f z, pif_f z, Int32.or_zero]
end MW
