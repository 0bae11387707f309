/-! PURE: texts and builders -/
def asc (c : Int32) : Prop := 0 ≤ c ∧ c ≤ 127
def b8P (c : Int32) : Prop := c.toInt8.toInt32 = c
abbrev ascL (l : List Int32) : Prop := ∀ c ∈ l, asc c
theorem asc_ex {c : Int32} (h : asc c) : ∃ k, k ≤ 127 ∧ c = nI k := nI_of2 (M := 127) rfl (Int32.not_lt.mpr h.1) h.2
theorem asc_tab : ∀ k, k ≤ 127 → (nI k).toInt8.toInt32 = nI k ∧ ((nI k &&& 255).toUInt32 % 65536).toInt32 = nI k ∧ (nI k).toUInt32.toUInt16.toUInt32.toInt32 = nI k ∧ asc (nI k) ∧ ((nI k).toUInt32 % 65536).toInt32 = nI k ∧ ¬ (255 : Int32) < nI k := by
  unfold asc
  decide +kernel
theorem asc_i8 {c : Int32} (h : asc c) : b8P c := by
  obtain ⟨k, hk, rfl⟩ := asc_ex h
  exact (asc_tab k hk).1
theorem ascL_get {l : List Int32} (h : ascL l) {k : Nat} (hk : k < l.length) : asc (l.getD k 0) := by
  rw [List.getD_eq_getElem?_getD, List.getElem?_eq_getElem hk]
  exact h _ (List.getElem_mem hk)
theorem getD_app_l {l t : List Int32} {k : Nat} (h : k < l.length) : (l ++ t).getD k 0 = l.getD k 0 := by
  rw [List.getD_eq_getElem?_getD, List.getD_eq_getElem?_getD, List.getElem?_append_left h]
theorem getD_app_r {l t : List Int32} {k : Nat} (h : l.length ≤ k) : (l ++ t).getD k 0 = t.getD (k - l.length) 0 := by
  rw [List.getD_eq_getElem?_getD, List.getD_eq_getElem?_getD, List.getElem?_append_right h]
/-- a text, all of it in objects below m -/
def Tx (S : St) (m x : Nat) (l : List Int32) : Prop := ∃ y, sva S x = some y ∧ sco S x = 0 ∧ sln S y = l.length ∧ (∀ k, k < l.length → sby S y k = l.getD k 0) ∧ (41 ≤ x → 197 ≤ x - 41 ∧ x - 41 < m) ∧ (41 ≤ y → 197 ≤ y - 41 ∧ y - 41 < m)
theorem ms_len : ∀ x, x < 41 → msL.getD x 0 = (msB.getD x []).length := by decide
theorem ms_asc : ∀ x, x < 41 → ∀ c ∈ msB.getD x [], (0 : Int32) ≤ c ∧ c ≤ 127 := by decide
theorem Tx.cst {S : St} {m x : Nat} (h : x < 41) : Tx S m x (msB.getD x []) := by
  refine ⟨x, if_pos h, if_pos h, ?_, fun k hk => ?_, fun q => absurd q (by omega), fun q => absurd q (by omega)⟩
  · unfold sln
    rw [if_pos h]
    exact ms_len x h
  · unfold sby
    rw [if_pos h]
theorem Tx.fr {S T : St} {m x : Nat} {l : List Int32} (h : Tx S m x l) (e : ∀ i, 197 ≤ i → i < m → SameO S T i) : Tx T m x l := by
  obtain ⟨y, h1, h2, h3, h4, h5, h6⟩ := h
  refine ⟨y, ?_, ?_, ?_, fun k hk => ?_, h5, h6⟩
  · unfold sva at h1 ⊢
    by_cases q : x < 41
    · rw [if_pos q] at h1 ⊢
      exact h1
    · rw [if_neg q] at h1 ⊢
      rw [(e _ (h5 (by omega)).1 (h5 (by omega)).2).2.1]
      exact h1
  · unfold sco at h2 ⊢
    by_cases q : x < 41
    · rw [if_pos q]
    · rw [if_neg q] at h2 ⊢
      rw [(e _ (h5 (by omega)).1 (h5 (by omega)).2).1]
      exact h2
  · unfold sln at h3 ⊢
    by_cases q : y < 41
    · rw [if_pos q] at h3 ⊢
      exact h3
    · rw [if_neg q] at h3 ⊢
      rw [(e _ (h6 (by omega)).1 (h6 (by omega)).2).2.2.2.2.2]
      exact h3
  · have := h4 k hk
    unfold sby at this ⊢
    by_cases q : y < 41
    · rw [if_pos q] at this ⊢
      exact this
    · rw [if_neg q] at this ⊢
      rw [(e _ (h6 (by omega)).1 (h6 (by omega)).2).2.2.1]
      exact this
theorem Tx.up {S : St} {m m' x : Nat} {l : List Int32} (h : Tx S m x l) (hm : m ≤ m') : Tx S m' x l := by
  obtain ⟨y, h1, h2, h3, h4, h5, h6⟩ := h
  exact ⟨y, h1, h2, h3, h4, fun q => ⟨(h5 q).1, Nat.lt_of_lt_of_le (h5 q).2 hm⟩, fun q => ⟨(h6 q).1, Nat.lt_of_lt_of_le (h6 q).2 hm⟩⟩
section Tt
variable {F : Nat} {S : St} {m x k : Nat} {l : List Int32}
theorem e_coder (h : Tx S m x l) : f_J0_coder_7d493 F S x = some (0, S) := by
  obtain ⟨y, -, h2, -⟩ := h
  unfold f_J0_coder_7d493
  rw [if_neg (by decide), h2, ck_t (Or.inl rfl)]
theorem e_len (h : Tx S m x l) : f_J0_length_8abf5 F S x = some (nI l.length, S) := by
  have hc := e_coder (F := F) h
  obtain ⟨y, h1, h2, h3, -⟩ := h
  unfold f_J0_length_8abf5
  rw [h1]
  simp only [ob_some, hc, lt_eq]
  rw [sb_shr0, h3]
theorem e_charAt (h : Tx S m x l) (ha : ascL l) (hk : k < l.length) (hl : l.length < 2 ^ 31) : f_J0_charAt_5068e F S x (nI k) = some (l.getD k 0, S) := by
  obtain ⟨y, h1, h2, h3, h4, -⟩ := h
  have hv := h4 k hk
  obtain ⟨c, c1, c2⟩ := asc_ex (ascL_get ha hk)
  obtain ⟨t1, t2, t3, t4, -⟩ := asc_tab c c1
  unfold f_J0_charAt_5068e f_J0_isLatin1_aae02
  rw [if_neg (by decide), h2, if_neg (fun q => q rfl)]
  simp only [ob_some, lt_eq]
  rw [if_neg (by decide), h1]
  simp only [ob_some]
  unfold f_J1_charAt_3b067 f_J0_checkIndex_df160 f_J3_checkIndex_8e157
  rw [h3, if_neg (nI_pos (by omega)), if_pos (nI_lt hk hl)]
  simp only [ob_some, lt_eq]
  rw [h3, cki_t (vp_in_nI hk hl), nI_clamp (by omega), hv, c2, t2, ck_t t3]
  simp only [ob_some, lt_eq]
  rw [ck_t t3]
end Tt
/-- a builder and the array of its bytes -/
def SB (S : St) (b v : Nat) (l : List Int32) : Prop := sr S 1000 b = some v ∧ ¬ v = b ∧ si S 1001 b = 0 ∧ si S 1003 b = nI l.length ∧ l.length ≤ ln S v ∧ ln S v ≤ 900 ∧ (∀ k, k < ln S v → b8P (ai S v k)) ∧ ∀ k, k < l.length → ai S v k = l.getD k 0
section Sb
variable {F : Nat} {S : St} {n b v m x q : Nat} {l t : List Int32}
theorem i8_0 : b8P 0 := show ((0 : Int32).toInt8.toInt32 = 0) by decide
theorem e_copyOfB {C : Nat} (hv : v < n) (hc : ln S v < C) (hC : C ≤ 1000) (h8 : ∀ k, k < ln S v → b8P (ai S v k)) : f_J7_copyOf_9075b F S n v (nI C) = some (some n, sai (nar S n C) n (va_cpy (ai S v) (fun _ => 0) 0 0 (ln S v)), n + 1) := by
  unfold f_J7_copyOf_9075b
  have e1 : ln (nar S n C) v = ln S v := by rw [ln_nar, if_neg (by omega)]
  have e2 : ai (nar S n C) v = ai S v := by rw [ai_nar, if_neg (by omega)]
  have e3 : ai (nar S n C) n = fun _ => 0 := by rw [ai_nar, if_pos rfl]
  have e4 : ln (nar S n C) n = C := by rw [ln_nar, if_pos rfl]
  rw [if_pos (fun z => by have := (nI_eq (by omega) (by omega)).mp z; omega), ck_t ⟨nI_pos (by omega), by rw [nI_clamp (by omega)]; omega⟩]
  simp only [lt_eq]
  rw [nI_clamp (show C < 2 ^ 31 by omega), e1, if_neg (nI_nlt (by omega) (by omega)), nI_clamp (show ln S v < 2 ^ 31 by omega), sln_o, sby_o, e1, e2, e3, e4]
  rw [ck_t ⟨by decide, by decide, nI_pos (by omega), by rw [show Int32.toNatClampNeg (0 : Int32) = 0 from rfl]; omega, by rw [show Int32.toNatClampNeg (0 : Int32) = 0 from rfl]; omega, fun k hk => h8 _ (by rw [show Int32.toNatClampNeg (0 : Int32) = 0 from rfl]; omega)⟩]
  rfl
theorem e_ensure (h : SB S b v l) (hb : b < n) (hv : v < n) (hq : q ≤ 400) : ∃ T n' v', f_J5_ensureCapacityInternal_d00df F S n b (nI q) = some (T, n') ∧ SB T b v' l ∧ q ≤ ln T v' ∧ n ≤ n' ∧ v' < n' ∧ (v' = v ∨ n ≤ v') ∧ ∀ i, i < n → ¬ i = b → SameO S T i := by
  obtain ⟨h1, h2, h3, h4, h5, h6, h7, h8⟩ := h
  unfold f_J5_ensureCapacityInternal_d00df
  rw [h1]
  simp only [ob_some, lt_eq]
  rw [h3, sb_shr0]
  by_cases hle : q ≤ ln S v
  · rw [if_pos (by rw [Int32.le_iff_toInt_le, pk_sub_toInt (by omega) (by omega), Int32.toInt_zero]; omega)]
    exact ⟨S, n, v, rfl, ⟨h1, h2, h3, h4, h5, h6, h7, h8⟩, hle, Nat.le_refl _, hv, Or.inl rfl, fun i _ _ => SameO.rf S i⟩
  · rw [if_neg (by rw [Int32.le_iff_toInt_le, pk_sub_toInt (by omega) (by omega), Int32.toInt_zero]; omega)]
    obtain ⟨C, hC1, hC2, hC3, hC4⟩ : ∃ C, C ≤ 900 ∧ q ≤ C ∧ ln S v < C ∧ nI (ln S v) + (if nI (q - ln S v) < nI (ln S v) + (2 : Int32) <<< ((0 : Int32) &&& 31) then nI (ln S v) + (2 : Int32) <<< ((0 : Int32) &&& 31) else nI (q - ln S v)) = nI C := by
      rw [sb_shl0, show (2 : Int32) = nI 2 from rfl, nI_add]
      by_cases hm : q - ln S v < ln S v + 2
      · rw [if_pos (nI_lt hm (by omega)), nI_add]
        exact ⟨ln S v + (ln S v + 2), by omega, by omega, by omega, rfl⟩
      · rw [if_neg (nI_nlt (by omega) (by omega)), nI_add]
        exact ⟨ln S v + (q - ln S v), by omega, by omega, by omega, rfl⟩
    have hnc : f_J5_newCapacity_0f7a4 F S b (nI q) = some (nI C, S) := by
      unfold f_J5_newCapacity_0f7a4 f_J8_newLength_cabcc
      rw [h1]
      simp only [ob_some, lt_eq]
      rw [h3, sb_shl0, pk_sub (by omega)]
      rw [hC4, if_neg (nI_nle (by omega) (by omega)), if_neg (show ¬ (2147483639 : Int32) < nI C from nI_nlt (a := 2147483639) (b := C) (by omega) (by decide))]
      simp only [ob_some, lt_eq]
      rw [if_pos (fun z => by have := (nI_eq (a := C) (b := 2147483647) (by omega) (by decide)).mp z; omega), h3, sb_shr0]
    rw [hnc]
    simp only [ob_some, lt_eq]
    rw [h3, sb_shl0, e_copyOfB hv hC3 (by omega) h7]
    simp only [ob_some, lt_eq]
    have a1 : ∀ k, ai (ur (sai (nar S n C) n (va_cpy (ai S v) (fun _ => 0) 0 0 (ln S v))) 1000 b (some n)) n k = if k < ln S v then ai S v k else 0 := by
      intro k
      rw [ai_ur, ai_sai, if_pos rfl]
      by_cases hk : k < ln S v
      · rw [if_pos hk, pk_cpy_in (by omega) (by omega)]
        exact congrArg _ (by omega)
      · rw [if_neg hk, pk_cpy_out (by omega)]
    have a2 : ln (ur (sai (nar S n C) n (va_cpy (ai S v) (fun _ => 0) 0 0 (ln S v))) 1000 b (some n)) n = C := by
      rw [ln_ur, ln_sai, ln_nar, if_pos rfl]
    refine ⟨_, n + 1, n, rfl, ⟨?_, by omega, ?_, ?_, ?_, ?_, fun k hk => ?_, fun k hk => ?_⟩, ?_, by omega, by omega, Or.inr (Nat.le_refl _), fun i hi hib => ?_⟩
    · rw [sr_ur, if_pos ⟨rfl, rfl⟩]
    · rw [si_ur, si_sai, si_nar]
      exact h3
    · rw [si_ur, si_sai, si_nar]
      exact h4
    · rw [a2]; omega
    · rw [a2]; omega
    · rw [a1]
      by_cases hk2 : k < ln S v
      · rw [if_pos hk2]
        exact h7 k hk2
      · rw [if_neg hk2]
        exact i8_0
    · rw [a1, if_pos (by omega)]
      exact h8 k hk
    · rw [a2]; exact hC2
    · exact ((SameO.nar (show ¬ i = n by omega)).tr (SameO.sai _ (show ¬ i = n by omega))).tr (SameO.ur _ hib)
/-- what a call on a builder leaves: the builder holds l, all else below m is as it was -/
def SbR (S T : St) (b m n n' : Nat) (l : List Int32) : Prop := (∃ v', SB T b v' l ∧ m ≤ v' ∧ v' < n') ∧ b < n' ∧ n ≤ n' ∧ ∀ i, i < m → SameO S T i
theorem len_app (a b : List Int32) : nI a.length + nI b.length = nI (a ++ b).length := by
  rw [nI_add, List.length_append]
theorem e_appS (h : SB S b v l) (mb : m ≤ b) (mv : m ≤ v) (hb : b < n) (hv : v < n) (tx : Tx S m x t) (ha : ascL t) (hq : (l ++ t).length ≤ 400) : ∃ T n', f_J4_append_15ec4 F S n b x = some (some b, T, n') ∧ SbR S T b m n n' (l ++ t) := by
  have hq2 : l.length + t.length ≤ 400 := by rw [List.length_append] at hq; exact hq
  obtain ⟨T, n', v', e1, e2, e3, e4, e5, e6, e7⟩ := e_ensure (F := F) (q := (l ++ t).length) h hb hv hq
  have mT : ∀ i, i < m → SameO S T i := fun i hi => e7 i (by omega) (by omega)
  have txT := tx.fr (fun i _ hi => mT i hi)
  obtain ⟨g1, g2, g3, g4, g5, g6, g7, g8⟩ := e2
  have hmv : m ≤ v' := by omega
  unfold f_J4_append_15ec4 f_J5_append_cf1ce
  rw [e_len tx]
  simp only [ob_some, lt_eq]
  rw [h.2.2.2.1, len_app, e1]
  simp only [ob_some, lt_eq]
  unfold f_J5_putStringAt_47b60 f_J5_inflateIfNeededFor_a7421
  rw [if_neg (by decide), e_coder txT]
  simp only [ob_some, lt_eq]
  rw [if_pos g3]
  simp only [ob_some]
  rw [g1]
  simp only [ob_some]
  unfold f_J0_getBytes_840e7
  rw [e_coder txT]
  simp only [ob_some, lt_eq]
  rw [g3, if_neg (fun z => z rfl)]
  obtain ⟨y, h1, h2, h3, h4, h5, h6⟩ := txT
  rw [h1]
  simp only [ob_some]
  rw [sb_shl0, g4, h3, nI_clamp (show t.length < 2 ^ 31 by omega), nI_clamp (show l.length < 2 ^ 31 by omega), show Int32.toNatClampNeg (0 : Int32) = 0 from rfl]
  rw [List.length_append] at e3
  rw [ck_t ⟨by decide, nI_pos (by omega), nI_pos (by omega), by omega, by omega, fun k hk => by rw [Nat.zero_add, h4 k hk]; exact asc_i8 (ascL_get ha hk)⟩]
  simp only [lt_eq, ob_some]
  rw [si_sai, g4, len_app]
  have a1 : ∀ k, ai (ui (sai T v' (va_cpy (sby T y) (ai T v') 0 l.length t.length)) 1003 b (nI (l ++ t).length)) v' k = if l.length ≤ k ∧ k < l.length + t.length then sby T y (k - l.length) else ai T v' k := by
    intro k
    rw [ai_ui, ai_sai, if_pos rfl]
    by_cases hk : l.length ≤ k ∧ k < l.length + t.length
    · rw [if_pos hk, pk_cpy_in (by omega) (by omega), Nat.zero_add]
    · rw [if_neg hk, pk_cpy_out (by omega)]
  refine ⟨_, n', rfl, ⟨v', ⟨?_, g2, ?_, ?_, ?_, ?_, fun k hk => ?_, fun k hk => ?_⟩, hmv, e5⟩, by omega, e4, fun i hi => ?_⟩
  · rw [sr_ui, sr_sai]; exact g1
  · rw [si_ui, if_neg (by omega), si_sai]; exact g3
  · rw [si_ui, if_pos ⟨rfl, rfl⟩]
  · rw [ln_ui, ln_sai, List.length_append]; exact e3
  · rw [ln_ui, ln_sai]; exact g6
  · rw [ln_ui, ln_sai] at hk
    rw [a1]
    by_cases hk2 : l.length ≤ k ∧ k < l.length + t.length
    · rw [if_pos hk2, h4 _ (by omega)]
      exact asc_i8 (ascL_get ha (by omega))
    · rw [if_neg hk2]
      exact g7 k hk
  · rw [a1]
    rw [List.length_append] at hk
    by_cases hk2 : l.length ≤ k
    · rw [if_pos ⟨hk2, by omega⟩, h4 _ (by omega), getD_app_r hk2]
    · rw [if_neg (by omega), g8 k (by omega), getD_app_l (by omega)]
  · exact ((mT i hi).tr (SameO.sai _ (show ¬ i = v' by omega))).tr (SameO.ui _ (show ¬ i = b by omega))
theorem e_appC {c : Nat} (h : SB S b v l) (mb : m ≤ b) (mv : m ≤ v) (hb : b < n) (hv : v < n) (hc : c ≤ 127) (hq : l.length + 1 ≤ 400) : ∃ T n', f_J4_append_cf468 F S n b (nI c) = some (some b, T, n') ∧ SbR S T b m n n' (l ++ [nI c]) := by
  obtain ⟨T, n', v', e1, e2, e3, e4, e5, e6, e7⟩ := e_ensure (F := F) (q := l.length + 1) h hb hv hq
  have mT : ∀ i, i < m → SameO S T i := fun i hi => e7 i (by omega) (by omega)
  obtain ⟨g1, g2, g3, g4, g5, g6, g7, g8⟩ := e2
  obtain ⟨t1, t2, t3, t4, t5, t6⟩ := asc_tab c hc
  have hmv : m ≤ v' := by omega
  unfold f_J4_append_cf468 f_J5_append_3fe6f
  rw [h.2.2.2.1, nI_1, e1]
  simp only [ob_some, lt_eq]
  unfold f_J5_isLatin1_aae02
  rw [if_neg (by decide), if_neg (fun z => z g3)]
  simp only [ob_some, lt_eq]
  rw [if_neg (by decide)]
  unfold f_J1_canEncode_fc78d
  rw [if_neg t6]
  simp only [ob_some, lt_eq]
  rw [if_neg (by decide), g1]
  simp only [ob_some, lt_eq]
  rw [ln_ui, g4, cki_t (vp_in_nI (by omega) (by omega)), nI_1, nI_clamp (show l.length < 2 ^ 31 by omega)]
  simp only [lt_eq, ob_some]
  have hv8 : (Int32.toInt8 (nI c).toInt8.toInt32).toInt32 = nI c := by rw [t1, t1]
  rw [hv8]
  have a1 : ∀ k, ai (uai (ui T 1003 b (nI (l.length + 1))) v' l.length (nI c)) v' k = if k = l.length then nI c else ai T v' k := by
    intro k
    rw [ai_uai, ai_ui]
    by_cases hk : k = l.length
    · rw [if_pos hk, if_pos ⟨rfl, hk⟩]
    · rw [if_neg hk, if_neg (fun z => hk z.2)]
  refine ⟨_, n', rfl, ⟨v', ⟨?_, g2, ?_, ?_, ?_, ?_, fun k hk => ?_, fun k hk => ?_⟩, hmv, e5⟩, by omega, e4, fun i hi => ?_⟩
  · rw [sr_uai, sr_ui]; exact g1
  · rw [si_uai, si_ui, if_neg (by omega)]; exact g3
  · rw [si_uai, si_ui, if_pos ⟨rfl, rfl⟩, List.length_append]; rfl
  · rw [ln_uai, ln_ui, List.length_append]; exact e3
  · rw [ln_uai, ln_ui]; exact g6
  · rw [ln_uai, ln_ui] at hk
    rw [a1]
    by_cases hk2 : k = l.length
    · rw [if_pos hk2]
      exact t1
    · rw [if_neg hk2]
      exact g7 k hk
  · rw [a1]
    rw [List.length_append] at hk
    by_cases hk2 : k = l.length
    · rw [if_pos hk2, getD_app_r (by omega), hk2, Nat.sub_self]
      rfl
    · have hk3 : k < l.length := by
        have : ([nI c] : List Int32).length = 1 := rfl
        omega
      rw [if_neg hk2, g8 k hk3, getD_app_l hk3]
  · exact ((mT i hi).tr (SameO.ui _ (show ¬ i = b by omega))).tr (SameO.uai _ (show ¬ i = v' by omega))
end Sb
