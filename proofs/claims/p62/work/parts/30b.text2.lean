/-! PURE: numbers, new builders, texts made of them -/
def decL (v : Nat) : List Int32 := if v < 10 then [nI (48 + v)] else [nI (48 + v / 10), nI (48 + v % 10)]
theorem dg_tab : ∀ v, v < 100 → (Int32.toInt8 (dgO.getD v 0)).toInt32 = nI (48 + v % 10) ∧ (Int32.toInt8 (dgT.getD v 0)).toInt32 = nI (48 + v / 10) := by decide +kernel
theorem decL_asc : ∀ v, v < 100 → ∀ c ∈ decL v, (0 : Int32) ≤ c ∧ c ≤ 127 := by decide +kernel
theorem decL_le {v : Nat} : (decL v).length ≤ 2 := by
  unfold decL
  by_cases h : v < 10
  · rw [if_pos h]; exact Nat.le_succ 1
  · rw [if_neg h]; exact Nat.le_refl 2
section Sn
variable {F : Nat} {S : St} {n b v m x q : Nat} {l t : List Int32}
theorem m10 : (-10 : Int32) = -nI 10 := rfl
theorem m100 : (-100 : Int32) = -nI 100 := rfl
theorem m9 : (-9 : Int32) = -nI 9 := rfl
theorem e_ssz {w : Nat} (hF : 10 ≤ F) (hw : w < 100) : f_J6_stringSize_0f7a4 F S (nI w) = some (nI (decL w).length, S) := by
  obtain ⟨f, rfl⟩ : ∃ f, F = f + 2 := ⟨F - 2, by omega⟩
  unfold f_J6_stringSize_0f7a4 f_J6_stringSize_0f7a4_L11 decL
  rw [if_neg (nI_pos (by omega))]
  simp only [lt_eq]
  unfold f_J6_stringSize_0f7a4_L16
  rw [if_neg (by decide), m10]
  by_cases h : w < 10
  · rw [if_neg (fun z => by have := (sb_nle (by omega) (by omega)).mp z; omega), if_pos h]
    rfl
  · rw [if_pos ((sb_nle (by omega) (by omega)).mpr (by omega)), if_neg h]
    simp only [lt_eq]
    unfold f_J6_stringSize_0f7a4_L16
    rw [if_neg (by decide), show (10 : Int32) * -nI 10 = -nI 100 from rfl, if_neg (fun z => by have := (sb_nle (by omega) (by omega)).mp z; omega)]
    rfl
theorem e_chars1 {w p : Nat} (hF : 10 ≤ F) (hw : w < 10) (hp : 1 ≤ p) (hl : p ≤ ln S v) (hl2 : ln S v ≤ 1000) : f_J6_getChars_ba4f3 F S (nI w) (nI p) v = some (nI (p - 1), uai S v (p - 1) (nI (48 + w))) := by
  obtain ⟨f, rfl⟩ : ∃ f, F = f + 2 := ⟨F - 2, by omega⟩
  obtain ⟨t1, t2⟩ := dg_tab w (by omega)
  unfold f_J6_getChars_ba4f3 f_J6_getChars_ba4f3_L12
  rw [if_pos (nI_pos' (by omega)), if_neg (fun z => z rfl)]
  simp only [lt_eq]
  unfold f_J6_getChars_ba4f3_L22
  rw [m100, if_pos ((sb_nlt (by omega) (by omega)).mpr (by omega))]
  simp only [lt_eq]
  rw [Int32.neg_neg, sb_m1 (by omega), cki_t (vp_in_nI (by omega) (by omega)), cki_t (vp_in_nI (by omega) (by omega)), nI_clamp (show p - 1 < 2 ^ 31 by omega), nI_clamp (show w < 2 ^ 31 by omega), t1, Nat.mod_eq_of_lt hw]
  rw [m9, if_pos ((sb_nle (by omega) (by omega)).mpr (by omega))]
  unfold f_J6_getChars_ba4f3_L104
  rw [if_pos rfl]
theorem e_chars2 {w p : Nat} (hF : 10 ≤ F) (h10 : 10 ≤ w) (hw : w < 100) (hp : 2 ≤ p) (hl : p ≤ ln S v) (hl2 : ln S v ≤ 1000) : f_J6_getChars_ba4f3 F S (nI w) (nI p) v = some (nI (p - 1 - 1), uai (uai S v (p - 1) (nI (48 + w % 10))) v (p - 1 - 1) (nI (48 + w / 10))) := by
  obtain ⟨f, rfl⟩ : ∃ f, F = f + 2 := ⟨F - 2, by omega⟩
  obtain ⟨t1, t2⟩ := dg_tab w hw
  unfold f_J6_getChars_ba4f3 f_J6_getChars_ba4f3_L12
  rw [if_pos (nI_pos' (by omega)), if_neg (fun z => z rfl)]
  simp only [lt_eq]
  unfold f_J6_getChars_ba4f3_L22
  rw [m100, if_pos ((sb_nlt (by omega) (by omega)).mpr (by omega))]
  simp only [lt_eq]
  rw [Int32.neg_neg, sb_m1 (by omega), cki_t (vp_in_nI (by omega) (by omega)), cki_t (vp_in_nI (by omega) (by omega)), nI_clamp (show p - 1 < 2 ^ 31 by omega), nI_clamp (show w < 2 ^ 31 by omega), t1]
  rw [m9, if_neg (fun z => by have := (sb_nle (by omega) (by omega)).mp z; omega)]
  rw [sb_m1 (by omega), cki_t (vp_in_nI (by omega) (by omega)), cki_t (vp_in_nI (by rw [ln_uai]; omega) (by rw [ln_uai]; omega)), nI_clamp (show p - 1 - 1 < 2 ^ 31 by omega), t2]
  unfold f_J6_getChars_ba4f3_L104
  rw [if_pos rfl]
theorem e_appI {w : Nat} (hF : 10 ≤ F) (h : SB S b v l) (mb : m ≤ b) (mv : m ≤ v) (hb : b < n) (hv : v < n) (hw : w < 100) (hq : l.length + 2 ≤ 400) : ∃ T n', f_J4_append_bf812 F S n b (nI w) = some (some b, T, n') ∧ SbR S T b m n n' (l ++ decL w) := by
  have hd := decL_le (v := w)
  obtain ⟨T, n', v', e1, e2, e3, e4, e5, e6, e7⟩ := e_ensure (F := F) (q := (l ++ decL w).length) h hb hv (by rw [List.length_append]; omega)
  have mT : ∀ i, i < m → SameO S T i := fun i hi => e7 i (by omega) (by omega)
  obtain ⟨g1, g2, g3, g4, g5, g6, g7, g8⟩ := e2
  have hmv : m ≤ v' := by omega
  unfold f_J4_append_bf812 f_J5_append_c97b9
  simp only [lt_eq]
  rw [e_ssz hF hw]
  simp only [ob_some, lt_eq]
  rw [h.2.2.2.1, len_app, e1]
  simp only [ob_some, lt_eq]
  unfold f_J5_isLatin1_aae02
  rw [if_neg (by decide), if_neg (fun z => z g3)]
  simp only [ob_some, lt_eq]
  rw [if_neg (by decide), g1]
  simp only [ob_some]
  have key : ∃ T', f_J6_getChars_ba4f3 F T (nI w) (nI (l ++ decL w).length) v' = some (nI l.length, T') ∧ (∀ i, ¬ i = v' → SameO T T' i) ∧ (∀ g, sr T' g = sr T g) ∧ (∀ g, si T' g = si T g) ∧ ln T' = ln T ∧ (∀ k, k < ln T v' → b8P (ai T' v' k)) ∧ ∀ k, k < (l ++ decL w).length → ai T' v' k = (l ++ decL w).getD k 0 := by
    rw [List.length_append] at e3 ⊢
    by_cases h10 : w < 10
    · have hdl : decL w = [nI (48 + w)] := if_pos h10
      rw [hdl] at e3 ⊢
      have h1 : ([nI (48 + w)] : List Int32).length = 1 := rfl
      rw [h1] at e3 ⊢
      refine ⟨_, (e_chars1 hF h10 (by omega) e3 (by omega)).trans (by rw [Nat.add_sub_cancel]), fun i hi => SameO.uai _ hi, fun g => rfl, fun g => rfl, ln_uai _ _ _ _, fun k hk => ?_, fun k hk => ?_⟩
      · rw [ai_uai]
        by_cases hk2 : k = l.length
        · rw [if_pos ⟨rfl, by omega⟩]
          exact (asc_tab (48 + w) (by omega)).1
        · rw [if_neg (by omega)]
          exact g7 k hk
      rw [ai_uai]
      by_cases hk2 : k = l.length
      · rw [if_pos ⟨rfl, by omega⟩, getD_app_r (by omega), hk2, Nat.sub_self]
        rfl
      · rw [if_neg (by omega), g8 k (by omega), getD_app_l (by omega)]
    · have hdl : decL w = [nI (48 + w / 10), nI (48 + w % 10)] := if_neg h10
      rw [hdl] at e3 ⊢
      have h1 : ([nI (48 + w / 10), nI (48 + w % 10)] : List Int32).length = 2 := rfl
      rw [h1] at e3 ⊢
      refine ⟨_, (e_chars2 hF (by omega) hw (by omega) e3 (by omega)).trans (by rw [show l.length + 2 - 1 - 1 = l.length by omega]), fun i hi => (SameO.uai _ hi).tr (SameO.uai _ hi), fun g => rfl, fun g => rfl, by rw [ln_uai, ln_uai], fun k hk => ?_, fun k hk => ?_⟩
      · rw [ai_uai, ai_uai]
        by_cases hk2 : k = l.length
        · rw [if_pos ⟨rfl, by omega⟩]
          exact (asc_tab (48 + w / 10) (by omega)).1
        · rw [if_neg (by omega)]
          by_cases hk3 : k = l.length + 1
          · rw [if_pos ⟨rfl, by omega⟩]
            exact (asc_tab (48 + w % 10) (by omega)).1
          · rw [if_neg (by omega)]
            exact g7 k hk
      rw [ai_uai, ai_uai]
      by_cases hk2 : k = l.length
      · rw [if_pos ⟨rfl, by omega⟩, getD_app_r (by omega), hk2, Nat.sub_self]
        rfl
      · rw [if_neg (by omega)]
        by_cases hk3 : k = l.length + 1
        · rw [if_pos ⟨rfl, by omega⟩, getD_app_r (by omega), hk3, Nat.add_sub_cancel_left]
          rfl
        · rw [if_neg (by omega), g8 k (by omega), getD_app_l (by omega)]
  obtain ⟨T', k1, k2, k3, k4, k5, k7, k6⟩ := key
  rw [k1]
  simp only [ob_some, lt_eq]
  unfold f_J5_append_c97b9_L48
  simp only [ob_some, lt_eq]
  have hda := decL_asc w hw
  refine ⟨_, n', rfl, ⟨v', ⟨?_, g2, ?_, ?_, ?_, ?_, fun k hk => ?_, fun k hk => ?_⟩, hmv, e5⟩, by omega, e4, fun i hi => ?_⟩
  · rw [sr_ui, k3]; exact g1
  · rw [si_ui, if_neg (by omega), k4]; exact g3
  · rw [si_ui, if_pos ⟨rfl, rfl⟩]
  · rw [ln_ui, k5]; exact e3
  · rw [ln_ui, k5]; exact g6
  · rw [ln_ui, k5] at hk
    rw [ai_ui]
    exact k7 k hk
  · rw [ai_ui]
    exact k6 k hk
  · exact ((mT i hi).tr (k2 i (show ¬ i = v' by omega))).tr (SameO.ui _ (show ¬ i = b by omega))
/-- new StringBuilder(text) -/
theorem e_newS (hb : b < n) (mb : m ≤ b) (tx : Tx S m x t) (ha : ascL t) (hq : t.length ≤ 40) (h3 : si S 1003 b = 0) (h1 : si S 1001 b = 0) : ∃ T n', f_J4_init_a7421 F S n b x = some (T, n') ∧ SbR S T b m n n' t := by
  unfold f_J4_init_a7421 f_J5_init_a7421
  rw [e_len tx]
  simp only [ob_some, lt_eq]
  rw [if_neg (show ¬ (2147483631 : Int32) ≤ nI t.length from nI_ge (a := t.length) (b := 2147483631) (by omega) (by decide))]
  unfold f_J5_init_a7421_L24
  rw [e_coder tx]
  simp only [ob_some, lt_eq]
  rw [ck_t (Or.inl True.intro), if_neg (fun z => z True.intro), show (16 : Int32) = nI 16 from rfl, nI_add, nI_clamp (show t.length + 16 < 2 ^ 31 by omega), ck_t ⟨nI_pos (by omega), by omega⟩]
  unfold f_J5_init_a7421_L53
  simp only [lt_eq]
  have hs : SB (ur (nar (ui S 1001 b 0) n (t.length + 16)) 1000 b (some n)) b n [] := by
    refine ⟨?_, by omega, ?_, ?_, Nat.zero_le _, ?_, fun k hk => ?_, fun k hk => absurd hk (Nat.not_lt_zero _)⟩
    · rw [sr_ur, if_pos ⟨rfl, rfl⟩]
    · rw [si_ur, si_nar, si_ui, if_pos ⟨rfl, rfl⟩]
    · rw [si_ur, si_nar, si_ui, if_neg (by omega)]
      exact h3
    · rw [ln_ur, ln_nar, if_pos rfl]
      omega
    · rw [ai_ur, ai_nar, if_pos rfl]
      exact i8_0
  have fr : ∀ i, i < m → SameO S (ur (nar (ui S 1001 b 0) n (t.length + 16)) 1000 b (some n)) i := fun i hi => ((SameO.ui _ (show ¬ i = b by omega)).tr (SameO.nar (show ¬ i = n by omega))).tr (SameO.ur _ (show ¬ i = b by omega))
  obtain ⟨T, n', e1, ⟨v', e2, e3, e4⟩, e5, e6, e7⟩ := e_appS (F := F) (n := n + 1) hs mb (by omega) (by omega) (by omega) (tx.fr (fun i _ hi => fr i hi)) ha (by rw [List.nil_append]; omega)
  unfold f_J4_append_cf1ce
  rw [e1]
  simp only [ob_some, lt_eq]
  exact ⟨T, n', rfl, ⟨v', by rw [List.nil_append] at e2; exact e2, e3, e4⟩, e5, by omega, fun i hi => (fr i hi).tr (e7 i hi)⟩
/-- new StringBuilder() -/
theorem e_new0 (hb : b < n) (mb : m ≤ b) (h3 : si S 1003 b = 0) : ∃ T n', f_J4_init_da8c8 F S n b = some (T, n') ∧ SbR S T b m n n' [] := by
  unfold f_J4_init_da8c8 f_J5_init_d00df
  rw [if_neg (by decide), ck_t ⟨by decide, by decide⟩]
  simp only [ob_some, lt_eq]
  refine ⟨_, n + 1, rfl, ⟨n, ⟨?_, by omega, ?_, ?_, Nat.zero_le _, ?_, fun k hk => ?_, fun k hk => absurd hk (Nat.not_lt_zero _)⟩, by omega, by omega⟩, by omega, by omega, fun i hi => ?_⟩
  · rw [sr_ui, sr_ur, if_pos ⟨rfl, rfl⟩]
  · rw [si_ui, if_pos ⟨rfl, rfl⟩]
  · rw [si_ui, if_neg (by omega), si_ur, si_nar]
    exact h3
  · rw [ln_ui, ln_ur, ln_nar, if_pos rfl]
    decide
  · rw [ai_ui, ai_ur, ai_nar, if_pos rfl]
    exact i8_0
  · exact ((SameO.nar (show ¬ i = n by omega)).tr (SameO.ur _ (show ¬ i = b by omega))).tr (SameO.ui _ (show ¬ i = b by omega))
/-- toString: a new text -/
theorem e_toS (h : SB S b v l) (hb : b < n) (hv : v < n) (hn : 197 ≤ n) : ∃ T n', f_J4_toString_0e30d F S n b = some (n + 41, T, n') ∧ Tx T n' (n + 41) l ∧ n + 1 < n' ∧ ∀ i, i < n → SameO S T i := by
  obtain ⟨h1, h2, h3, h4, h5, h6, h7, h8⟩ := h
  have b1 : ∀ f, si (nob S n) f b = si S f b := fun f => by rw [si_nob, if_neg (by omega)]
  have b2 : ∀ f, sr (nob S n) f b = sr S f b := fun f => by rw [sr_nob, if_neg (by omega)]
  unfold f_J4_toString_0e30d f_J0_init_81219 f_J0_init_db425 f_J5_getValue_6d5f1 f_J4_length_8abf5 f_J5_length_8abf5 f_J5_isLatin1_aae02
  simp only [lt_eq]
  rw [b2, h1]
  simp only [ob_some, lt_eq]
  rw [if_neg (by decide), b1, if_neg (fun z => z h3)]
  simp only [ob_some, lt_eq]
  rw [if_neg (by decide), b1, h4]
  have hcp : ∃ T', f_J7_copyOfRange_39247 F (ui (nob S n) 1801 n 0) (n + 1) v 0 (nI l.length) = some (some (n + 1), T', n + 2) ∧ (∀ i, ¬ i = n + 1 → SameO (ui (nob S n) 1801 n 0) T' i) ∧ ln T' (n + 1) = l.length ∧ ∀ k, k < l.length → ai T' (n + 1) k = l.getD k 0 := by
    have c1 : ln (ui (nob S n) 1801 n 0) v = ln S v := rfl
    have c2 : ai (ui (nob S n) 1801 n 0) v = ai S v := rfl
    unfold f_J7_copyOfRange_39247
    rw [if_neg (fun z => z rfl), c1]
    by_cases he : l.length = ln S v
    · rw [if_pos (by rw [he]), c2, ck_t ⟨by omega, h7⟩]
      simp only [lt_eq]
      refine ⟨_, rfl, fun i hi => (SameO.nar hi).tr (SameO.sai _ hi), ?_, fun k hk => ?_⟩
      · rw [ln_sai, ln_nar, if_pos rfl]
        exact he.symm
      · rw [ai_sai, if_pos rfl]
        exact h8 k hk
    · rw [if_neg (fun z => he ((nI_eq (by omega) (by omega)).mp z))]
      unfold f_J7_copyOfRange_39247_L10 f_J7_copyOfRangeByte_39247 f_J7_checkLength_df160
      rw [if_pos (nI_pos' (by omega))]
      simp only [ob_some, lt_eq]
      have d1 : nI l.length - 0 = nI l.length := pk_sub (a := l.length) (b := 0) (by omega)
      have d2 : ∀ a : Nat, nI a - 0 = nI a := fun a => pk_sub (a := a) (b := 0) (by omega)
      rw [d1, nI_clamp (show l.length < 2 ^ 31 by omega), ck_t ⟨nI_pos (by omega), by omega⟩]
      have k1 : ln (nar (ui (nob S n) 1801 n 0) (n + 1) l.length) v = ln S v := by rw [ln_nar, if_neg (by omega)]; rfl
      have k2 : ai (nar (ui (nob S n) 1801 n 0) (n + 1) l.length) v = ai S v := by rw [ai_nar, if_neg (by omega)]; rfl
      have k3 : ln (nar (ui (nob S n) 1801 n 0) (n + 1) l.length) (n + 1) = l.length := by rw [ln_nar, if_pos rfl]
      rw [k1, d2, if_pos (nI_lt (by omega) (by omega)), nI_clamp (show l.length < 2 ^ 31 by omega), sln_o, sby_o, k1, k2, k3, show Int32.toNatClampNeg (0 : Int32) = 0 from rfl]
      rw [ck_t ⟨by decide, by decide, nI_pos (by omega), by omega, by omega, fun k hk => h7 _ (by omega)⟩]
      simp only [ob_some, lt_eq]
      refine ⟨_, rfl, fun i hi => (SameO.nar hi).tr (SameO.sai _ hi), ?_, fun k hk => ?_⟩
      · rw [ln_sai, k3]
      · rw [ai_sai, if_pos rfl, pk_cpy_in (by omega) (by omega)]
        rw [show 0 + (k - 0) = k by omega]
        exact h8 k hk
  obtain ⟨T', g1, g2, g3, g4⟩ := hcp
  rw [g1]
  simp only [ob_some, lt_eq]
  refine ⟨_, n + 2, rfl, ⟨n + 1 + 41, ?_, ?_, ?_, fun k hk => ?_, fun _ => ⟨by omega, by omega⟩, fun _ => ⟨by omega, by omega⟩⟩, by omega, fun i hi => ?_⟩
  · rw [sva_o, sr_ur, if_pos ⟨rfl, rfl⟩]
    rfl
  · rw [sco_o, si_ur, (g2 n (by omega)).1, si_ui, if_pos ⟨rfl, rfl⟩]
  · rw [sln_o, ln_ur]
    exact g3
  · rw [sby_o, ai_ur]
    exact g4 k hk
  · exact (((SameO.nob (show ¬ i = n by omega)).tr (SameO.ui _ (show ¬ i = n by omega))).tr (g2 i (by omega))).tr (SameO.ur _ (show ¬ i = n by omega))
end Sn
