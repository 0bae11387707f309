/-! names: find, matches -/
/-- what the class reads of a whole buffer -/
noncomputable def whW (f : Nat → Int32) (K : Nat) : Int64 := pif ((∀ k, k < K → letB (f k)) ∧ K ≤ 10) (lN (wv f K)) 0
theorem e_wholeW {F : Nat} {S : St} {j r K : Nat} {f : Nat → Int32} (h0 : sr S 0 j = some r) (h1 : si S 1 j = nI K) (hL : K ≤ ln S r) (hb : ln S r < 2 ^ 31) (hf : ∀ k, k < K → ai S r k = f k ∧ (f k).toInt8.toInt32 = f k) (hF : K < F) : f_X0_wholeWord F S j = some (whW f K, S) := by
  have g : ∀ d k fu, k + d = K → d < fu → (∀ i, i < k → letB (f i)) → f_X0_wholeWord_L4 F fu S j (wEnc f k) (nI k) = some (whW f K, S) := by
    intro d
    induction d with
    | zero =>
      intro k fu hk hfu hl
      obtain ⟨fu, rfl⟩ : ∃ f', fu = f' + 1 := ⟨fu - 1, by omega⟩
      have : k = K := by omega
      subst this
      unfold f_X0_wholeWord_L4 whW wEnc
      rw [h1, if_pos (nI_le (Nat.le_refl _) (by omega))]
      simp only [lg_cmp_eq]
      by_cases z : k ≤ 10
      · have bw := wv_b z hl
        rw [if_pos z, pif_t ⟨hl, z⟩, if_pos (lN_m1 (by omega))]
      · rw [if_neg z, pif_f (fun y => z y.2), if_neg (fun y => y rfl)]
    | succ d ih =>
      intro k fu hk hfu hl
      obtain ⟨fu, rfl⟩ : ∃ f', fu = f' + 1 := ⟨fu - 1, by omega⟩
      obtain ⟨f1, f2⟩ := hf k (by omega)
      have bt := e_byteAt F h0 h1 hL hb (show k < K by omega)
      obtain ⟨i1, i2⟩ := i8 (f k) f2
      unfold f_X0_wholeWord_L4
      rw [h1, if_neg (nI_ge (by omega) (by omega)), bt, ob_some, f1]
      simp only [lt_eq]
      rw [e_isLet, ob_some]
      simp only [lt_eq, ne_bI]
      by_cases c : letB (f k)
      · rw [if_pos (show 97 ≤ f k &&& 255 ∧ f k &&& 255 ≤ 122 from i1.mp c), i2 c, e_withLetter F S (fun i hi => by
          rcases Nat.lt_or_ge i k with y | y
          · exact hl i y
          · rw [show i = k by omega]; exact c), ob_some]
        try simp only []
        rw [nI_1]
        exact ih (k + 1) fu (by omega) (by omega) (fun i hi => by
          rcases Nat.lt_or_ge i k with y | y
          · exact hl i y
          · rw [show i = k by omega]; exact c)
      · rw [if_neg (show ¬ (97 ≤ f k &&& 255 ∧ f k &&& 255 ≤ 122) from fun y => c (i1.mpr y))]
        unfold whW
        rw [pif_f (fun y => c (y.1 k (by omega)))]
  unfold f_X0_wholeWord
  have := g K 0 F (by omega) hF (fun i hi => by omega)
  exact this
/-- the first number that is so -/
noncomputable def fstN (P : Nat → Prop) (n : Nat) : Option Nat := runL (fun i (_ : Unit) => pif (P i) (.inl (some i)) (.inr ())) (fun _ => (none : Option Nat)) n 0 ()
theorem fst_c {P Q : Nat → Prop} {n : Nat} (h : ∀ i, i < n → (P i ↔ Q i)) : fstN P n = fstN Q n := runL_e (fun j b hj => pif_c (h j hj))
theorem fst_no {P : Nat → Prop} {n : Nat} (h : ∀ i, i < n → ¬ P i) : fstN P n = none := by
  have g : ∀ c k, k + c = n → runL (fun i (_ : Unit) => pif (P i) (.inl (some i)) (.inr ())) (fun _ => (none : Option Nat)) c k () = none := by
    intro c
    induction c with
    | zero => intro k _; rfl
    | succ c ih =>
      intro k hk
      unfold runL
      rw [pif_f (h k (by omega))]
      exact ih (k + 1) (by omega)
  exact g n 0 (by omega)
theorem fst_lt {P : Nat → Prop} {n q : Nat} (h : fstN P n = some q) : q < n ∧ P q := by
  have g : ∀ c k, k + c = n → runL (fun i (_ : Unit) => pif (P i) (.inl (some i)) (.inr ())) (fun _ => (none : Option Nat)) c k () = some q → q < n ∧ P q := by
    intro c
    induction c with
    | zero => intro k _ h; cases h
    | succ c ih =>
      intro k hk h
      unfold runL at h
      by_cases z : P k
      · rw [pif_t z] at h
        cases h
        exact ⟨by omega, z⟩
      · rw [pif_f z] at h
        exact ih (k + 1) (by omega) h
  exact g n 0 (by omega) h
theorem fst_sm {P : Nat → Prop} {n : Nat} (h : ∃ i, i < n ∧ P i) : ∃ q, fstN P n = some q := by
  cases e : fstN P n with
  | some q => exact ⟨q, rfl⟩
  | none =>
    exfalso
    obtain ⟨i, h1, h2⟩ := h
    have g : ∀ c k, k + c = n → k ≤ i → ¬ runL (fun i (_ : Unit) => pif (P i) (.inl (some i)) (.inr ())) (fun _ => (none : Option Nat)) c k () = none := by
      intro c
      induction c with
      | zero => intro k a b; omega
      | succ c ih =>
        intro k hk hi q
        unfold runL at q
        by_cases z : P k
        · rw [pif_t z] at q; cases q
        · rw [pif_f z] at q
          refine ih (k + 1) (by omega) ?_ q
          by_cases y : k = i
          · subst y; exact absurd h2 z
          · omega
    exact g n 0 (by omega) (by omega) e
/-- a table of names -/
theorem e_numberOf {F : Nat} {S : St} {q c : Nat} (h0 : sr S 400 q = some (q + 1)) (h1 : si S 401 q = nI c) (hl : c ≤ ln S (q + 1)) (hb : ln S (q + 1) < 2 ^ 31) (w : Int64) (hF : c < F) : f_X5_numberOf F S q w = some (encO (fstN (fun i => al S (q + 1) i = w) c), S) := by
  unfold f_X5_numberOf
  have e := loopXm (fun fu k (_ : Unit) => f_X5_numberOf_L2 F fu S q w (nI k)) c (fun i (_ : Unit) => pif (al S (q + 1) i = w) (.inl (some i)) (.inr ())) (fun _ => (none : Option Nat)) (fun o => (encO o, S)) F 0 () (by omega) (by omega) (fun fu a => ?_) (fun fu k a hk => ?_)
  · exact e
  · show f_X5_numberOf_L2 F (fu + 1) S q w (nI c) = _
    unfold f_X5_numberOf_L2
    rw [h1, if_pos (nI_le (Nat.le_refl _) (by omega))]
    rfl
  · have main : f_X5_numberOf_L2 F (fu + 1) S q w (nI k) = if al S (q + 1) k = w then some (nI k, S) else f_X5_numberOf_L2 F fu S q w (nI (k + 1)) := by
      conv => lhs; unfold f_X5_numberOf_L2
      rw [h1, if_neg (nI_ge hk (by omega)), h0, ob_some, if_neg (nI_ge (by omega) hb), ob_some, cki_nI (by omega) hb, nI_clamp (by omega)]
      simp only [lg_cmp_eq, lt_eq, nI_1]
      by_cases z : al S (q + 1) k = w
      · rw [if_neg (fun y => y z), if_pos z]
      · rw [if_pos z, if_neg z]
    refine ⟨fun b hb2 => main.trans ?_, fun a' ha => main.trans ?_⟩
    · by_cases z : al S (q + 1) k = w
      · rw [pif_t z] at hb2
        cases hb2
        rw [if_pos z]
        rfl
      · rw [pif_f z] at hb2
        cases hb2
    · by_cases z : al S (q + 1) k = w
      · rw [pif_t z] at ha
        cases ha
      · rw [if_neg z]
/-- a name's letters are those of a word -/
def nmEq (N : Nat → Int32) (o : Nat) (f : Nat → Int32) (K : Nat) : Prop := K ≤ 6 ∧ ∀ k, k < 6 → N (o + k) = if k < K then f k else 0
theorem nI_sub {a b : Nat} (h : b ≤ a) : nI a - nI b = nI (a - b) := by
  rw [Int32.sub_eq_iff_eq_add, nI_add, Nat.sub_add_cancel h]
theorem wdN_eq {N : Nat → Int32} {o : Nat} : ∀ {c : Nat}, (∀ k, k < c → letB (N (o + k))) → wdN N o c = lN (wv (fun k => N (o + k)) c) := by
  intro c
  induction c with
  | zero => intro _; rfl
  | succ c ih =>
    intro h
    have e : wdN N o (c + 1) = wdN N o c * 27 + ((N (o + c)).toInt64 - 96) := by
      unfold wdN
      rw [runN_s, Nat.zero_add]
    obtain ⟨d1, d2, d3⟩ := let_dig (h c (by omega))
    rw [e, ih (fun k hk => h k (by omega)), wv_s]
    generalize (N (o + c)).toNatClampNeg - 96 = d at d1 d2 d3
    have e2 : ∀ d, d < 27 → 1 ≤ d → (nI (96 + d)).toInt64 - 96 = lN d := by decide +kernel
    rw [d3, e2 d (by omega) d1, show (27 : Int64) = lN 27 from rfl, lN_mul, lN_add]
/-- a name in the class's table and in the model's -/
theorem name_iff {N : Nat → Int32} {o kk K : Nat} {f : Nat → Int32} (hk : kk ≤ 6) (hn : isName N o kk) (hz : ∀ i, kk ≤ i → i < 6 → N (o + i) = 0) (hK : 1 ≤ K) (hf : ∀ k, k < K → letB (f k)) : nmEq N o f K ↔ K ≤ 10 ∧ wdN N o kk = lN (wv f K) := by
  have hl : ∀ k, k < kk → letB (N (o + k)) := hn.2
  have l0 : ¬ letB 0 := by unfold letB; decide
  rw [wdN_eq hl]
  constructor
  · rintro ⟨h1, h2⟩
    have e : K = kk := by
      rcases Nat.lt_trichotomy K kk with q | q | q
      · exfalso
        have := h2 K (by omega)
        rw [if_neg (by omega)] at this
        have l := hl K q
        rw [this] at l
        exact l0 l
      · exact q
      · exfalso
        have := h2 kk (by omega)
        rw [if_pos q, hz kk (Nat.le_refl _) (by omega)] at this
        have l := hf kk q
        rw [← this] at l
        exact l0 l
    subst e
    refine ⟨by omega, congrArg lN (wv_c (fun k hk => ?_))⟩
    have := h2 k (by omega)
    rw [if_pos hk] at this
    exact this
  · rintro ⟨h1, h2⟩
    have b1 := wv_b (f := fun k => N (o + k)) (by omega) hl
    have b2 := wv_b h1 hf
    obtain ⟨e1, e2⟩ := wv_inj hl hf ((lN_inj (by omega) (by omega)).mp h2)
    subst e1
    refine ⟨hk, fun k hk2 => ?_⟩
    by_cases z : k < kk
    · rw [if_pos z]; exact e2 k z
    · rw [if_neg z]; exact hz k (by omega) hk2
theorem name_n0 {N : Nat → Int32} {o kk : Nat} (hk : kk ≤ 6) (hn : isName N o kk) : ¬ wdN N o kk = 0 := by
  have hl : ∀ k, k < kk → letB (N (o + k)) := hn.2
  have b1 := wv_b (f := fun k => N (o + k)) (by omega) hl
  rw [wdN_eq hl, show (0 : Int64) = lN 0 from rfl, lN_inj (by omega) (by omega)]
  have g := wv_ge (f := fun k => N (o + k)) (c := kk - 1) (fun k hk2 => hl k (by have := hn.1; omega))
  rw [show kk - 1 + 1 = kk by have := hn.1; omega] at g
  have p : 0 < 27 ^ (kk - 1) := Nat.pow_pos (by omega)
  omega
/-- the names of a kind: object q of the class, places o of the model -/
theorem find_eq {S : St} {q c : Nat} {N : Nat → Int32} {o : Nat → Nat} {f : Nat → Int32} {K : Nat} (hc : ∀ i, i < c → ∃ k, k ≤ 6 ∧ isName N (o i) k ∧ (∀ j, k ≤ j → j < 6 → N (o i + j) = 0) ∧ al S (q + 1) i = wdN N (o i) k) (hK : 1 ≤ K) (hf : ∀ k, k < K → letB (f k)) :
    fstN (fun i => al S (q + 1) i = whW f K) c = fstN (fun i => nmEq N (o i) f K) c := by
  apply fst_c
  intro i hi
  obtain ⟨k, k1, k2, k3, k4⟩ := hc i hi
  rw [k4, name_iff k1 k2 k3 hK hf]
  unfold whW
  by_cases z : K ≤ 10
  · rw [pif_t ⟨hf, z⟩]
    exact ⟨fun y => ⟨z, y⟩, fun y => y.2⟩
  · rw [pif_f (fun y => z y.2)]
    exact ⟨fun y => absurd y (name_n0 k1 k2), fun y => absurd y.1 z⟩

