/-! calls that ask, IV: the store -/
section A
variable {F : Nat} {xs : Nat → Int32} {L : Nat} {S : St} {n : Nat} {i : Int32}
theorem e_mostKept {p : Nat} {N B : Nat → Int32} (C : Cl0 S n p N B) (hs : SpF S p) (hF : 1000 ≤ F) : f_X9_mostKept F S (p + 6) = some (encO (runN (bestS N) (kN N 8) 0 none), S) := by
  have b8 := C.wb.n8.2
  have b7 := C.wb.n7.2
  have q1 : si S 800 (p + 6) = nI (kN N 8) := C.cp.1.1.trans C.wb.n8.1
  have l9 := hs.l9
  have kp : ∀ q, q < kN N 8 → f_X10_at F S (p + 9) (nI q) = some (nI (kpN N q), S) := fun q hq => by
    rw [e_at (by omega) (by omega), (C.cp.2 q hq).2.2.1]
    rfl
  have kb : ∀ q, kpN N q ≤ 120 := fun q => Nat.le_trans (cntP_le _ _) b7
  unfold f_X9_mostKept
  rw [lt_eq]
  refine (loopN (fun fu k b => f_X9_mostKept_L4 F fu S (p + 6) (encO b) (nI k)) (kN N 8) (bestS N) (fun b => (encO b, S)) (fun k b => ∀ q, b = some q → q < k) (fun fu b _ => ?_) (fun fu k b hk hb => ?_) F 0 none (by omega) (by omega) (fun q e => by cases e)).1
  · simp (disch := first | assumption | omega) only [ob_some, lt_eq, sm_l, sm_r, os_s, os_n, cki_nI, cki_0, cki_1, ck_bI, nI_clamp, cl0, cl1, nI_add, nI_mul, nI_1, nI_a0, nI_0a, nI_1a, nI_1m, aL2, La2, mL2, cL2, kL2, aL3, La3, mL3, cL3, kL3, aL4, La4, mL4, cL4, kL4, aL5, La5, mL5, cL5, kL5, aL6, La6, mL6, cL6, kL6, aL7, La7, mL7, cL7, kL7, aL8, La8, mL8, cL8, kL8, aL9, La9, mL9, cL9, kL9, aL10, La10, mL10, cL10, kL10, aL11, La11, mL11, cL11, kL11, aL12, La12, mL12, cL12, kL12, aL13, La13, mL13, cL13, kL13, aL14, La14, mL14, cL14, kL14, aL15, La15, mL15, cL15, kL15, aL16, La16, mL16, cL16, kL16, aL20, La20, mL20, cL20, kL20, aL21, La21, mL21, cL21, kL21, aL24, La24, mL24, cL24, kL24, aL27, La27, mL27, cL27, kL27, aL30, La30, mL30, cL30, kL30, aL31, La31, mL31, cL31, kL31, aL32, La32, mL32, cL32, kL32, aL48, La48, mL48, cL48, kL48, aL60, La60, mL60, cL60, kL60, aL83, La83, mL83, cL83, kL83, aL97, La97, mL97, cL97, kL97, aL99, La99, mL99, cL99, kL99, aL120, La120, mL120, cL120, kL120, aL122, La122, mL122, cL122, kL122, aL124, La124, mL124, cL124, kL124, aL163, La163, mL163, cL163, kL163, aL177, La177, mL177, cL177, kL177, aL200, La200, mL200, cL200, kL200, aL205, La205, mL205, cL205, kL205, aL255, La255, mL255, cL255, kL255, aL331, La331, mL331, cL331, kL331, aL480, La480, mL480, cL480, kL480, aL999, La999, mL999, cL999, kL999, aL1171, La1171, mL1171, cL1171, kL1171, aL1200, La1200, mL1200, cL1200, kL1200, aL2000, La2000, mL2000, cL2000, kL2000, aL4771, La4771, mL4771, cL4771, kL4771, aL6211, La6211, mL6211, cL6211, kL6211, aL6214, La6214, mL6214, cL6214, kL6214, aL6391, La6391, mL6391, cL6391, kL6391, aL8000, La8000, mL8000, cL8000, kL8000, aL9999, La9999, mL9999, cL9999, kL9999, aL20000, La20000, mL20000, cL20000, kL20000, aL96000, La96000, mL96000, cL96000, kL96000, nI_leI, nI_ltI, ne_bI, eq_bI, if_pos, if_neg, f_X9_mostKept_L4, q1]
  · refine ⟨fun q e => ?_, ?_⟩
    · unfold bestS at e
      by_cases h1 : isN N k = 1
      · rw [if_pos h1] at e
        cases b with
        | none =>
          simp only [] at e
          split at e
          · cases e; omega
          · cases e
        | some b' =>
          have := hb b' rfl
          simp only [] at e
          split at e
          · cases e; omega
          · cases e; omega
      · rw [if_neg h1] at e
        have := hb q e
        omega
    · have k1 := kp k hk
      simp (disch := first | assumption | omega) only [ob_some, lt_eq, sm_l, sm_r, os_s, os_n, cki_nI, cki_0, cki_1, ck_bI, nI_clamp, cl0, cl1, nI_add, nI_mul, nI_1, nI_a0, nI_0a, nI_1a, nI_1m, aL2, La2, mL2, cL2, kL2, aL3, La3, mL3, cL3, kL3, aL4, La4, mL4, cL4, kL4, aL5, La5, mL5, cL5, kL5, aL6, La6, mL6, cL6, kL6, aL7, La7, mL7, cL7, kL7, aL8, La8, mL8, cL8, kL8, aL9, La9, mL9, cL9, kL9, aL10, La10, mL10, cL10, kL10, aL11, La11, mL11, cL11, kL11, aL12, La12, mL12, cL12, kL12, aL13, La13, mL13, cL13, kL13, aL14, La14, mL14, cL14, kL14, aL15, La15, mL15, cL15, kL15, aL16, La16, mL16, cL16, kL16, aL20, La20, mL20, cL20, kL20, aL21, La21, mL21, cL21, kL21, aL24, La24, mL24, cL24, kL24, aL27, La27, mL27, cL27, kL27, aL30, La30, mL30, cL30, kL30, aL31, La31, mL31, cL31, kL31, aL32, La32, mL32, cL32, kL32, aL48, La48, mL48, cL48, kL48, aL60, La60, mL60, cL60, kL60, aL83, La83, mL83, cL83, kL83, aL97, La97, mL97, cL97, kL97, aL99, La99, mL99, cL99, kL99, aL120, La120, mL120, cL120, kL120, aL122, La122, mL122, cL122, kL122, aL124, La124, mL124, cL124, kL124, aL163, La163, mL163, cL163, kL163, aL177, La177, mL177, cL177, kL177, aL200, La200, mL200, cL200, kL200, aL205, La205, mL205, cL205, kL205, aL255, La255, mL255, cL255, kL255, aL331, La331, mL331, cL331, kL331, aL480, La480, mL480, cL480, kL480, aL999, La999, mL999, cL999, kL999, aL1171, La1171, mL1171, cL1171, kL1171, aL1200, La1200, mL1200, cL1200, kL1200, aL2000, La2000, mL2000, cL2000, kL2000, aL4771, La4771, mL4771, cL4771, kL4771, aL6211, La6211, mL6211, cL6211, kL6211, aL6214, La6214, mL6214, cL6214, kL6214, aL6391, La6391, mL6391, cL6391, kL6391, aL8000, La8000, mL8000, cL8000, kL8000, aL9999, La9999, mL9999, cL9999, kL9999, aL20000, La20000, mL20000, cL20000, kL20000, aL96000, La96000, mL96000, cL96000, kL96000, nI_leI, nI_ltI, ne_bI, eq_bI, f_X9_mostKept_L4, q1, e_isStored C hs hk, hs.r805_6, k1]
      rw [if_neg (by omega)]
      unfold bestS
      by_cases h1 : isN N k = 1
      · rw [if_pos h1, if_pos h1]
        cases b with
        | none =>
          rw [if_neg (show ¬ ¬ encO none = -1 from fun z => z rfl)]
          unfold f_X9_mostKept_L45 f_X9_mostKept_L50
          have := kb k
          by_cases h2 : 0 < kpN N k
          · simp only [if_pos h2]
            rw [if_neg (nI_nle h2 (by omega)), lt_eq, nI_1]
            rfl
          · simp only [if_neg h2]
            rw [show kpN N k = 0 by omega, if_pos (show nI 0 ≤ 0 by decide), lt_eq, nI_1]
        | some b' =>
          have hb' := hb b' rfl
          have k2 := kp b' (by omega)
          have := kb k
          have := kb b'
          rw [if_pos (show ¬ encO (some b') = -1 from nI_nm1 (by omega))]
          unfold f_X9_mostKept_L45 f_X9_mostKept_L50
          have k3 : f_X10_at F S (p + 9) (encO (some b')) = some (nI (kpN N b'), S) := k2
          rw [k3, ob_some]
          simp only [nI_leI (show kpN N k < 2 ^ 31 by omega) (show kpN N b' < 2 ^ 31 by omega), lt_eq, nI_1]
          by_cases h2 : kpN N b' < kpN N k
          · rw [if_pos h2, if_neg (by omega)]
            rfl
          · rw [if_neg h2, if_pos (by omega)]
      · rw [if_neg h1, if_neg h1]
        unfold f_X9_mostKept_L50
        rw [lt_eq, nI_1]
theorem m_mostShared {B : Nat → Int32} (hx : FxF S) (w : WB (ai S 198) B) (hF : 1000 ≤ F) : f_X11_mostShared_L9 F F S 197 (-1) 0 = some (encO (runN (bestS (ai S 198)) (kN (ai S 198) 8) 0 none), S) := by
  have b8 := w.n8.2
  have b7 := w.n7.2
  have q8 := w.n8.1
  have kb : ∀ q, kpN (ai S 198) q ≤ 120 := fun q => Nat.le_trans (cntP_le _ _) b7
  have kp : ∀ q, q < 480 → f_X11_keepers F S 197 (nI q) = some (nI (kpN (ai S 198) q), S) := fun q hq => m_keepers hx w hq hF
  refine (loopN (fun fu k b => f_X11_mostShared_L9 F fu S 197 (encO b) (nI k)) (kN (ai S 198) 8) (bestS (ai S 198)) (fun b => (encO b, S)) (fun k b => ∀ q, b = some q → q < k ∧ 0 < kpN (ai S 198) q) (fun fu b _ => ?_) (fun fu k b hk hb => ?_) F 0 none (by omega) (by omega) (fun q e => by cases e)).1
  · simp (disch := first | assumption | omega) only [ob_some, lt_eq, sm_l, sm_r, os_s, os_n, cki_nI, cki_0, cki_1, ck_bI, nI_clamp, cl0, cl1, nI_add, nI_mul, nI_1, nI_a0, nI_0a, nI_1a, nI_1m, aL2, La2, mL2, cL2, kL2, aL3, La3, mL3, cL3, kL3, aL4, La4, mL4, cL4, kL4, aL5, La5, mL5, cL5, kL5, aL6, La6, mL6, cL6, kL6, aL7, La7, mL7, cL7, kL7, aL8, La8, mL8, cL8, kL8, aL9, La9, mL9, cL9, kL9, aL10, La10, mL10, cL10, kL10, aL11, La11, mL11, cL11, kL11, aL12, La12, mL12, cL12, kL12, aL13, La13, mL13, cL13, kL13, aL14, La14, mL14, cL14, kL14, aL15, La15, mL15, cL15, kL15, aL16, La16, mL16, cL16, kL16, aL20, La20, mL20, cL20, kL20, aL21, La21, mL21, cL21, kL21, aL24, La24, mL24, cL24, kL24, aL27, La27, mL27, cL27, kL27, aL30, La30, mL30, cL30, kL30, aL31, La31, mL31, cL31, kL31, aL32, La32, mL32, cL32, kL32, aL48, La48, mL48, cL48, kL48, aL60, La60, mL60, cL60, kL60, aL83, La83, mL83, cL83, kL83, aL97, La97, mL97, cL97, kL97, aL99, La99, mL99, cL99, kL99, aL120, La120, mL120, cL120, kL120, aL122, La122, mL122, cL122, kL122, aL124, La124, mL124, cL124, kL124, aL163, La163, mL163, cL163, kL163, aL177, La177, mL177, cL177, kL177, aL200, La200, mL200, cL200, kL200, aL205, La205, mL205, cL205, kL205, aL255, La255, mL255, cL255, kL255, aL331, La331, mL331, cL331, kL331, aL480, La480, mL480, cL480, kL480, aL999, La999, mL999, cL999, kL999, aL1171, La1171, mL1171, cL1171, kL1171, aL1200, La1200, mL1200, cL1200, kL1200, aL2000, La2000, mL2000, cL2000, kL2000, aL4771, La4771, mL4771, cL4771, kL4771, aL6211, La6211, mL6211, cL6211, kL6211, aL6214, La6214, mL6214, cL6214, kL6214, aL6391, La6391, mL6391, cL6391, kL6391, aL8000, La8000, mL8000, cL8000, kL8000, aL9999, La9999, mL9999, cL9999, kL9999, aL20000, La20000, mL20000, cL20000, kL20000, aL96000, La96000, mL96000, cL96000, kL96000, nI_leI, nI_ltI, ne_bI, eq_bI, if_pos, if_neg, f_X11_mostShared_L9, hx.r1001_197, hx.l198, q8]
  · refine ⟨fun q e => ?_, ?_⟩
    · unfold bestS at e
      by_cases h1 : isN (ai S 198) k = 1
      · rw [if_pos h1] at e
        cases b with
        | none =>
          simp only [] at e
          split at e
          · rename_i g
            cases e
            exact ⟨by omega, g⟩
          · cases e
        | some b' =>
          have := hb b' rfl
          simp only [] at e
          split at e
          · cases e; omega
          · cases e; omega
      · rw [if_neg h1] at e
        have := hb q e
        omega
    · have k1 := kp k (by omega)
      simp (disch := first | assumption | omega) only [ob_some, lt_eq, sm_l, sm_r, os_s, os_n, cki_nI, cki_0, cki_1, ck_bI, nI_clamp, cl0, cl1, nI_add, nI_mul, nI_1, nI_a0, nI_0a, nI_1a, nI_1m, aL2, La2, mL2, cL2, kL2, aL3, La3, mL3, cL3, kL3, aL4, La4, mL4, cL4, kL4, aL5, La5, mL5, cL5, kL5, aL6, La6, mL6, cL6, kL6, aL7, La7, mL7, cL7, kL7, aL8, La8, mL8, cL8, kL8, aL9, La9, mL9, cL9, kL9, aL10, La10, mL10, cL10, kL10, aL11, La11, mL11, cL11, kL11, aL12, La12, mL12, cL12, kL12, aL13, La13, mL13, cL13, kL13, aL14, La14, mL14, cL14, kL14, aL15, La15, mL15, cL15, kL15, aL16, La16, mL16, cL16, kL16, aL20, La20, mL20, cL20, kL20, aL21, La21, mL21, cL21, kL21, aL24, La24, mL24, cL24, kL24, aL27, La27, mL27, cL27, kL27, aL30, La30, mL30, cL30, kL30, aL31, La31, mL31, cL31, kL31, aL32, La32, mL32, cL32, kL32, aL48, La48, mL48, cL48, kL48, aL60, La60, mL60, cL60, kL60, aL83, La83, mL83, cL83, kL83, aL97, La97, mL97, cL97, kL97, aL99, La99, mL99, cL99, kL99, aL120, La120, mL120, cL120, kL120, aL122, La122, mL122, cL122, kL122, aL124, La124, mL124, cL124, kL124, aL163, La163, mL163, cL163, kL163, aL177, La177, mL177, cL177, kL177, aL200, La200, mL200, cL200, kL200, aL205, La205, mL205, cL205, kL205, aL255, La255, mL255, cL255, kL255, aL331, La331, mL331, cL331, kL331, aL480, La480, mL480, cL480, kL480, aL999, La999, mL999, cL999, kL999, aL1171, La1171, mL1171, cL1171, kL1171, aL1200, La1200, mL1200, cL1200, kL1200, aL2000, La2000, mL2000, cL2000, kL2000, aL4771, La4771, mL4771, cL4771, kL4771, aL6211, La6211, mL6211, cL6211, kL6211, aL6214, La6214, mL6214, cL6214, kL6214, aL6391, La6391, mL6391, cL6391, kL6391, aL8000, La8000, mL8000, cL8000, kL8000, aL9999, La9999, mL9999, cL9999, kL9999, aL20000, La20000, mL20000, cL20000, kL20000, aL96000, La96000, mL96000, cL96000, kL96000, nI_leI, nI_ltI, ne_bI, eq_bI, f_X11_mostShared_L9, f_X11_mostShared_L54, f_X11_mostShared_L56, hx.r1001_197, hx.l198, q8, m_isStored hx w hk, k1]
      rw [if_neg (by omega)]
      unfold bestS
      have := kb k
      by_cases h1 : isN (ai S 198) k = 1
      · rw [if_pos h1, if_pos h1]
        cases b with
        | none =>
          by_cases h2 : 0 < kpN (ai S 198) k
          · simp only [if_pos h2]
            rw [if_neg (nI_nle h2 (by omega)), if_pos (show encO none = -1 from rfl)]
            rfl
          · simp only [if_neg h2]
            rw [show kpN (ai S 198) k = 0 by omega, if_pos (show nI 0 ≤ 0 by decide)]
        | some b' =>
          obtain ⟨hb', hb2⟩ := hb b' rfl
          have := kb b'
          have k3 : f_X11_keepers F S 197 (encO (some b')) = some (nI (kpN (ai S 198) b'), S) := kp b' (by omega)
          rw [k3, ob_some]
          simp only [nI_leI (show kpN (ai S 198) k < 2 ^ 31 by omega) (show kpN (ai S 198) b' < 2 ^ 31 by omega)]
          by_cases h2 : kpN (ai S 198) b' < kpN (ai S 198) k
          · rw [if_neg (nI_nle (by omega) (by omega)), if_neg (show ¬ encO (some b') = -1 from nI_nm1 (by omega)), if_neg (by omega), if_pos h2]
            rfl
          · rw [if_neg h2]
            by_cases h3 : nI (kpN (ai S 198) k) ≤ 0
            · rw [if_pos h3]
            · rw [if_neg h3, if_neg (show ¬ encO (some b') = -1 from nI_nm1 (by omega)), if_pos (by omega)]
      · rw [if_neg h1, if_neg h1]
theorem ok_32 (hF : 100000 ≤ F) (h : Rel S n) (hi : ∀ k : Nat, k < 6 → vp_in (i + nI k) L) : Ok (f_law32 F xs L S n 0 197 210 211 i) := by
  refine askD h (fm := fun S => f_X11_mostShared F S 197) (encO (runN (bestS (ai S 198)) (kN (ai S 198) 8) 0 none)) S ?_ (Eqv.rf S) (noT ?_)
  · simp (disch := first | assumption | omega) only [ob_some, lt_eq, sm_l, sm_r, os_s, os_n, cki_nI, cki_0, cki_1, ck_bI, nI_clamp, cl0, cl1, nI_add, nI_mul, nI_1, nI_a0, nI_0a, nI_1a, nI_1m, aL2, La2, mL2, cL2, kL2, aL3, La3, mL3, cL3, kL3, aL4, La4, mL4, cL4, kL4, aL5, La5, mL5, cL5, kL5, aL6, La6, mL6, cL6, kL6, aL7, La7, mL7, cL7, kL7, aL8, La8, mL8, cL8, kL8, aL9, La9, mL9, cL9, kL9, aL10, La10, mL10, cL10, kL10, aL11, La11, mL11, cL11, kL11, aL12, La12, mL12, cL12, kL12, aL13, La13, mL13, cL13, kL13, aL14, La14, mL14, cL14, kL14, aL15, La15, mL15, cL15, kL15, aL16, La16, mL16, cL16, kL16, aL20, La20, mL20, cL20, kL20, aL21, La21, mL21, cL21, kL21, aL24, La24, mL24, cL24, kL24, aL27, La27, mL27, cL27, kL27, aL30, La30, mL30, cL30, kL30, aL31, La31, mL31, cL31, kL31, aL32, La32, mL32, cL32, kL32, aL48, La48, mL48, cL48, kL48, aL60, La60, mL60, cL60, kL60, aL83, La83, mL83, cL83, kL83, aL97, La97, mL97, cL97, kL97, aL99, La99, mL99, cL99, kL99, aL120, La120, mL120, cL120, kL120, aL122, La122, mL122, cL122, kL122, aL124, La124, mL124, cL124, kL124, aL163, La163, mL163, cL163, kL163, aL177, La177, mL177, cL177, kL177, aL200, La200, mL200, cL200, kL200, aL205, La205, mL205, cL205, kL205, aL255, La255, mL255, cL255, kL255, aL331, La331, mL331, cL331, kL331, aL480, La480, mL480, cL480, kL480, aL999, La999, mL999, cL999, kL999, aL1171, La1171, mL1171, cL1171, kL1171, aL1200, La1200, mL1200, cL1200, kL1200, aL2000, La2000, mL2000, cL2000, kL2000, aL4771, La4771, mL4771, cL4771, kL4771, aL6211, La6211, mL6211, cL6211, kL6211, aL6214, La6214, mL6214, cL6214, kL6214, aL6391, La6391, mL6391, cL6391, kL6391, aL8000, La8000, mL8000, cL8000, kL8000, aL9999, La9999, mL9999, cL9999, kL9999, aL20000, La20000, mL20000, cL20000, kL20000, aL96000, La96000, mL96000, cL96000, kL96000, nI_leI, nI_ltI, ne_bI, eq_bI, f_X10_mostShared, h.fx.r905_0, h.fx.sp27.r710_0, e_mostKept h.c0 h.fx.sp27 (by omega : 1000 ≤ F)]
  · have hx : FxF (ui S 1000 197 0) := fx_thr h.fx 0
    have w : WB (ai (ui S 1000 197 0) 198) (ai S 200) := h.w
    unfold f_X11_mostShared
    rw [lt_eq, lt_eq, m_mostShared hx w (by omega)]
    rfl
theorem sub_eq0 {a b : Int32} : a - b = 0 ↔ a = b := by
  rw [Int32.sub_eq_iff_eq_add, Int32.zero_add]
theorem loopXm {α β γ : Type} (L : Nat → Nat → α → Option γ) (n : Nat) (step : Nat → α → β ⊕ α) (fin : α → β) (g : β → γ) : ∀ (fu k : Nat) (a : α), k ≤ n → n - k < fu → (∀ fu a, L (fu + 1) n a = some (g (fin a))) → (∀ fu k a, k < n → (∀ b, step k a = .inl b → L (fu + 1) k a = some (g b)) ∧ (∀ a', step k a = .inr a' → L (fu + 1) k a = L fu (k + 1) a')) → L fu k a = some (g (runL step fin (n - k) k a)) := by
  intro fu
  induction fu with
  | zero => intro k a _ h; exact absurd h (Nat.not_lt_zero _)
  | succ fu ih =>
    intro k a hk hf hstop hstep
    rcases Nat.lt_or_ge k n with h | h
    · have e : n - k = (n - (k + 1)) + 1 := by omega
      rw [e]
      obtain ⟨g1, g2⟩ := hstep fu k a h
      unfold runL
      cases hs : step k a with
      | inl b => exact g1 b hs
      | inr a' => rw [g2 a' hs]; exact ih (k + 1) a' (by omega) (by omega) hstop hstep
    · have e : k = n := by omega
      subst e
      rw [Nat.sub_self]
      exact hstop fu a
def encP (S : St) (o : Option Nat) : Int32 × St := match o with
  | none => (0, ui S 1000 197 1)
  | some q => (nI q, ui S 1000 197 0)
def atX (N : Nat → Int32) (x : Int32) : Option Nat := runL (fun q (a : Nat) => if isN N q = 1 then (if x = nI a then .inl (some q) else .inr (a + 1)) else .inr a) (fun _ => (none : Option Nat)) (kN N 8) 0 0
theorem m_storedPart {B : Nat → Int32} (hx : FxF S) (w : WB (ai S 198) B) (x : Int32) (hF : 1000 ≤ F) : f_X11_storedPart_L4 F F S 197 (x - nI 0) (nI 0) = some (encP S (atX (ai S 198) x)) := by
  have b8 := w.n8.2
  have q8 := w.n8.1
  unfold atX
  refine loopXm (fun fu k (a : Nat) => f_X11_storedPart_L4 F fu S 197 (x - nI a) (nI k)) (kN (ai S 198) 8) _ _ (encP S) F 0 0 (by omega) (by omega) (fun fu a => ?_) (fun fu k a hk => ?_)
  · show f_X11_storedPart_L4 F (fu + 1) S 197 (x - nI a) (nI (kN (ai S 198) 8)) = _
    unfold f_X11_storedPart_L4
    rw [hx.r1001_197, ob_some, hx.l198, show (8 : Int32) = nI 8 from rfl, cki_nI (by omega) (by omega), nI_clamp (by omega), q8, if_pos (nI_le (Nat.le_refl _) (by omega)), lt_eq]
    rfl
  · have s1 : x - nI a + -1 = x - nI (a + 1) := by rw [Int32.add_neg_eq_sub, Int32.sub_sub, nI_1]
    have main : f_X11_storedPart_L4 F (fu + 1) S 197 (x - nI a) (nI k) = if isN (ai S 198) k = 1 then (if x = nI a then some (nI k, ui S 1000 197 0) else f_X11_storedPart_L4 F fu S 197 (x - nI (a + 1)) (nI (k + 1))) else f_X11_storedPart_L4 F fu S 197 (x - nI a) (nI (k + 1)) := by
      simp (disch := first | assumption | omega) only [ob_some, lt_eq, sm_l, sm_r, os_s, os_n, cki_nI, cki_0, cki_1, ck_bI, nI_clamp, cl0, cl1, nI_add, nI_mul, nI_1, nI_a0, nI_0a, nI_1a, nI_1m, aL2, La2, mL2, cL2, kL2, aL3, La3, mL3, cL3, kL3, aL4, La4, mL4, cL4, kL4, aL5, La5, mL5, cL5, kL5, aL6, La6, mL6, cL6, kL6, aL7, La7, mL7, cL7, kL7, aL8, La8, mL8, cL8, kL8, aL9, La9, mL9, cL9, kL9, aL10, La10, mL10, cL10, kL10, aL11, La11, mL11, cL11, kL11, aL12, La12, mL12, cL12, kL12, aL13, La13, mL13, cL13, kL13, aL14, La14, mL14, cL14, kL14, aL15, La15, mL15, cL15, kL15, aL16, La16, mL16, cL16, kL16, aL20, La20, mL20, cL20, kL20, aL21, La21, mL21, cL21, kL21, aL24, La24, mL24, cL24, kL24, aL27, La27, mL27, cL27, kL27, aL30, La30, mL30, cL30, kL30, aL31, La31, mL31, cL31, kL31, aL32, La32, mL32, cL32, kL32, aL48, La48, mL48, cL48, kL48, aL60, La60, mL60, cL60, kL60, aL83, La83, mL83, cL83, kL83, aL97, La97, mL97, cL97, kL97, aL99, La99, mL99, cL99, kL99, aL120, La120, mL120, cL120, kL120, aL122, La122, mL122, cL122, kL122, aL124, La124, mL124, cL124, kL124, aL163, La163, mL163, cL163, kL163, aL177, La177, mL177, cL177, kL177, aL200, La200, mL200, cL200, kL200, aL205, La205, mL205, cL205, kL205, aL255, La255, mL255, cL255, kL255, aL331, La331, mL331, cL331, kL331, aL480, La480, mL480, cL480, kL480, aL999, La999, mL999, cL999, kL999, aL1171, La1171, mL1171, cL1171, kL1171, aL1200, La1200, mL1200, cL1200, kL1200, aL2000, La2000, mL2000, cL2000, kL2000, aL4771, La4771, mL4771, cL4771, kL4771, aL6211, La6211, mL6211, cL6211, kL6211, aL6214, La6214, mL6214, cL6214, kL6214, aL6391, La6391, mL6391, cL6391, kL6391, aL8000, La8000, mL8000, cL8000, kL8000, aL9999, La9999, mL9999, cL9999, kL9999, aL20000, La20000, mL20000, cL20000, kL20000, aL96000, La96000, mL96000, cL96000, kL96000, nI_leI, nI_ltI, ne_bI, eq_bI, f_X11_storedPart_L4, f_X11_storedPart_L40, hx.r1001_197, hx.l198, q8, m_isStored hx w hk, s1]
      rw [if_neg (show ¬ kN (ai S 198) 8 ≤ k by omega)]
      by_cases h1 : isN (ai S 198) k = 1
      · rw [if_pos h1, if_pos h1]
        by_cases h2 : x = nI a
        · rw [if_neg (fun z => z (sub_eq0.mpr h2)), if_pos h2]
        · rw [if_pos (fun z => h2 (sub_eq0.mp z)), if_neg h2]
      · rw [if_neg h1, if_neg h1]
    refine ⟨fun b hb => ?_, fun a' ha => ?_⟩
    · refine main.trans ?_
      by_cases h1 : isN (ai S 198) k = 1
      · by_cases h2 : x = nI a
        · rw [if_pos h1, if_pos h2] at hb ⊢
          cases hb
          rfl
        · rw [if_pos h1, if_neg h2] at hb
          cases hb
      · rw [if_neg h1] at hb
        cases hb
    · refine main.trans ?_
      by_cases h1 : isN (ai S 198) k = 1
      · by_cases h2 : x = nI a
        · rw [if_pos h1, if_pos h2] at ha
          cases ha
        · rw [if_pos h1, if_neg h2] at ha ⊢
          cases ha
          rfl
      · rw [if_neg h1] at ha ⊢
        cases ha
        rfl
theorem ok_25 (hF : 100000 ≤ F) (h : Rel S n) (hi : ∀ k : Nat, k < 6 → vp_in (i + nI k) L) : Ok (f_law25 F xs L S n 0 197 210 211 i) := by
  have h1 : vp_in (i + 1) L := hi 1 (by omega)
  unfold f_law25 f_L_storedPart
  simp only [cki_t h1]
  generalize xs (Int32.toNatClampNeg (i + 1)) = x
  have b8 := h.w.n8.2
  have bc := cntP_le (fun q => isN (ai S 198) q = 1) (kN (ai S 198) 8)
  have s801 : si S 801 (27 + 6) = nI (cntP (fun q => isN (ai S 198) q = 1) (kN (ai S 198) 8)) := h.c0.cp.1.2.1
  refine askB h (fm := fun S => f_X11_storedPart F S 197 x) (0 ≤ x ∧ x < nI (cntP (fun q => isN (ai S 198) q = 1) (kN (ai S 198) 8))) (encO (atN (ai S 198) x.toNatClampNeg)) 4 1 S ?_ (Eqv.rf S) rfl (by decide) (fun S' h' e => ?_)
  · unfold f_X10_storedPart f_X10_storedPart_L18
    by_cases c1 : x < 0
    · rw [if_pos c1, if_neg (fun z => (le_nlt.mp z.1) c1)]
    rw [if_neg c1, h.fx.r905_0, ob_some, h.fx.sp27.r710_0, ob_some, s801]
    by_cases c2 : x < nI (cntP (fun q => isN (ai S 198) q = 1) (kN (ai S 198) 8))
    · obtain ⟨k, hk, rfl⟩ := ix (by omega) ⟨le_nlt.mpr c1, c2⟩
      rw [if_pos c2, if_pos ⟨le_nlt.mpr c1, c2⟩, ob_some, h.fx.sp27.r710_0, ob_some, e_storedAt h.c0 h.fx.sp27 k (by omega) (by omega), ob_some, nI_clamp (by omega), atN_run]
      simp only [lt_eq]
      show some (Sum.inr (match atN (ai S 198) k with | some q => nI q | none => -1), S) = _
      cases atN (ai S 198) k with
      | none => rfl
      | some q => rfl
    · rw [if_neg c2, if_neg (fun z => c2 z.2)]
  · have hx := h'.fx
    have w := h'.w
    have e8 := m_storedPart (F := F) hx w x (by omega)
    rw [e.net, show nI 0 = (0 : Int32) from rfl, Int32.sub_zero] at e8
    unfold f_X11_storedPart
    rw [e8]
    unfold atX
    by_cases c1 : 0 ≤ x ∧ x < nI (cntP (fun q => isN (ai S 198) q = 1) (kN (ai S 198) 8))
    · obtain ⟨k, hk, rfl⟩ := ix (by omega) c1
      have e9 : runL (fun q (a : Nat) => if isN (ai S 198) q = 1 then (if nI k = nI a then .inl (some q) else .inr (a + 1)) else .inr a) (fun _ => (none : Option Nat)) (kN (ai S 198) 8) 0 0 = atN (ai S 198) k := by
        unfold atN
        have g : ∀ c j a, j + c = kN (ai S 198) 8 → a ≤ j → runL (fun q (a : Nat) => if isN (ai S 198) q = 1 then (if nI k = nI a then .inl (some q) else .inr (a + 1)) else .inr a) (fun _ => (none : Option Nat)) c j a = runL (fun q (a : Nat) => if isN (ai S 198) q = 1 then (if a = k then .inl (some q) else .inr (a + 1)) else .inr a) (fun _ => (none : Option Nat)) c j a := by
          intro c
          induction c with
          | zero => intro j a _ _; rfl
          | succ c ih =>
            intro j a hj ha
            unfold runL
            have z : nI k = nI a ↔ k = a := nI_eq (by omega) (by omega)
            by_cases h1 : isN (ai S 198) j = 1
            · by_cases h2 : k = a
              · simp only [if_pos h1, if_pos (z.mpr h2), if_pos h2.symm]
              · simp only [if_pos h1, if_neg (fun y => h2 (z.mp y)), if_neg (fun y : a = k => h2 y.symm)]; exact ih (j + 1) (a + 1) (by omega) (by omega)
            · simp only [if_neg h1]; exact ih (j + 1) a (by omega) (by omega)
        exact g _ 0 0 (by omega) (by omega)
      rw [e9, nI_clamp (by omega)]
      rcases atN_lt (N := ai S 198) (i := k) with ⟨⟨q, a1, a2⟩, a3⟩ | ⟨a1, a3⟩
      · rw [a1]
        exact ⟨nI q, _, rfl, eqv_thr S' 0, rfl, by rw [if_neg (fun z => z c1)]; rfl, fun _ => rfl⟩
      · exact absurd hk a3
    · have e9 : runL (fun q (a : Nat) => if isN (ai S 198) q = 1 then (if x = nI a then .inl (some q) else .inr (a + 1)) else .inr a) (fun _ => (none : Option Nat)) (kN (ai S 198) 8) 0 0 = none := by
        have g : ∀ c j, j + c = kN (ai S 198) 8 → runL (fun q (a : Nat) => if isN (ai S 198) q = 1 then (if x = nI a then .inl (some q) else .inr (a + 1)) else .inr a) (fun _ => (none : Option Nat)) c j (cntP (fun q => isN (ai S 198) q = 1) j) = none := by
          intro c
          induction c with
          | zero => intro j _; rfl
          | succ c ih =>
            intro j hj
            unfold runL
            have hs := cntP_s (fun q => isN (ai S 198) q = 1) j
            by_cases h1 : isN (ai S 198) j = 1
            · rw [pif_t h1] at hs
              have mono : ∀ d b, cntP (fun q => isN (ai S 198) q = 1) b ≤ cntP (fun q => isN (ai S 198) q = 1) (b + d) := by
                intro d
                induction d with
                | zero => intro b; exact Nat.le_refl _
                | succ d ihd =>
                  intro b
                  rw [← Nat.add_assoc, cntP_s]
                  exact Nat.le_trans (ihd b) (Nat.le_add_right _ _)
              have m1 := mono c (j + 1)
              rw [show j + 1 + c = kN (ai S 198) 8 by omega] at m1
              have h2 : ¬ x = nI (cntP (fun q => isN (ai S 198) q = 1) j) := by
                rintro rfl
                exact c1 ⟨nI_pos' (by omega), nI_lt (by omega) (by omega)⟩
              simp only [if_pos h1, if_neg h2]
              rw [← hs]
              exact ih (j + 1) (by omega)
            · rw [pif_f h1] at hs
              simp only [if_neg h1]
              have := ih (j + 1) (by omega)
              rw [hs] at this
              exact this
        exact g _ 0 (by omega)
      rw [e9]
      exact ⟨0, _, rfl, eqv_thr S' 1, rfl, by rw [if_pos c1]; rfl, fun z => absurd z c1⟩
theorem ok_28 (hF : 100000 ≤ F) (h : Rel S n) (hi : ∀ k : Nat, k < 6 → vp_in (i + nI k) L) : Ok (f_law28 F xs L S n 0 197 210 211 i) := by
  have h1 : vp_in (i + 1) L := hi 1 (by omega)
  unfold f_law28 f_L_digest
  simp only [cki_t h1]
  generalize xs (Int32.toNatClampNeg (i + 1)) = x
  refine askW h (fm := fun S => f_X11_digest F S 197 x) ((0 ≤ x ∧ x < ai S 198 8) ∧ isN (ai S 198) x.toNatClampNeg = 1) (runN (fun k (a : Int64) => (a ^^^ ((ai S 200 (200 * x.toNatClampNeg + k)) &&& 255).toInt64) * 1099511628211) (kN (ai S 198) (4771 + 3 * x.toNatClampNeg)) 0 (-3750763034362895579)) 4 1 ?_ rfl (by decide) (fun S' h' e => ?_)
  · unfold f_X10_digest
    rw [e_needPart h, ob_some]
    by_cases hc : (0 ≤ x ∧ x < ai S 198 8) ∧ isN (ai S 198) x.toNatClampNeg = 1
    · obtain ⟨q, hq, hq2, rfl, hq3⟩ := ixP h hc
      obtain ⟨j, j1, j2, j3, j4, j5, j6⟩ := e_bytesOf (F := F) h.c0 h.fx.sp27 hq
      have b := (h.w.wP q hq).1.2
      rw [if_pos hc, if_pos hc, nI_clamp (by omega)]
      simp only [lt_eq, sm_r, h.fx.r905_0, h.fx.sp27.r710_0, ob_some, j1]
      unfold f_X0_hash
      rw [lt_eq]
      have hh := loopR0 (fun fu k a => f_X0_hash_L6 F fu S j a (nI k)) (kN (ai S 198) (4771 + 3 * q)) (fun k (a : Int64) => (a ^^^ ((ai S 200 (200 * q + k)) &&& 255).toInt64) * 1099511628211) (fun a => (a, S)) (F := F) (-3750763034362895579) (by omega) (fun fu a => ?_) (fun fu k a hk => ?_)
      · rw [show nI 0 = (0 : Int32) from rfl] at hh
        rw [hh]
        rfl
      · simp (disch := first | assumption | omega) only [ob_some, lt_eq, sm_l, sm_r, os_s, os_n, cki_nI, cki_0, cki_1, ck_bI, nI_clamp, cl0, cl1, nI_add, nI_mul, nI_1, nI_a0, nI_0a, nI_1a, nI_1m, aL2, La2, mL2, cL2, kL2, aL3, La3, mL3, cL3, kL3, aL4, La4, mL4, cL4, kL4, aL5, La5, mL5, cL5, kL5, aL6, La6, mL6, cL6, kL6, aL7, La7, mL7, cL7, kL7, aL8, La8, mL8, cL8, kL8, aL9, La9, mL9, cL9, kL9, aL10, La10, mL10, cL10, kL10, aL11, La11, mL11, cL11, kL11, aL12, La12, mL12, cL12, kL12, aL13, La13, mL13, cL13, kL13, aL14, La14, mL14, cL14, kL14, aL15, La15, mL15, cL15, kL15, aL16, La16, mL16, cL16, kL16, aL20, La20, mL20, cL20, kL20, aL21, La21, mL21, cL21, kL21, aL24, La24, mL24, cL24, kL24, aL27, La27, mL27, cL27, kL27, aL30, La30, mL30, cL30, kL30, aL31, La31, mL31, cL31, kL31, aL32, La32, mL32, cL32, kL32, aL48, La48, mL48, cL48, kL48, aL60, La60, mL60, cL60, kL60, aL83, La83, mL83, cL83, kL83, aL97, La97, mL97, cL97, kL97, aL99, La99, mL99, cL99, kL99, aL120, La120, mL120, cL120, kL120, aL122, La122, mL122, cL122, kL122, aL124, La124, mL124, cL124, kL124, aL163, La163, mL163, cL163, kL163, aL177, La177, mL177, cL177, kL177, aL200, La200, mL200, cL200, kL200, aL205, La205, mL205, cL205, kL205, aL255, La255, mL255, cL255, kL255, aL331, La331, mL331, cL331, kL331, aL480, La480, mL480, cL480, kL480, aL999, La999, mL999, cL999, kL999, aL1171, La1171, mL1171, cL1171, kL1171, aL1200, La1200, mL1200, cL1200, kL1200, aL2000, La2000, mL2000, cL2000, kL2000, aL4771, La4771, mL4771, cL4771, kL4771, aL6211, La6211, mL6211, cL6211, kL6211, aL6214, La6214, mL6214, cL6214, kL6214, aL6391, La6391, mL6391, cL6391, kL6391, aL8000, La8000, mL8000, cL8000, kL8000, aL9999, La9999, mL9999, cL9999, kL9999, aL20000, La20000, mL20000, cL20000, kL20000, aL96000, La96000, mL96000, cL96000, kL96000, nI_leI, nI_ltI, ne_bI, eq_bI, if_pos, if_neg, f_X0_hash_L6, j5]
      · have bt := e_byteAt F (S := S) (r := j + 1) j3 j5 (by omega) (by omega) hk
        rw [j6 k hk] at bt
        simp (disch := first | assumption | omega) only [ob_some, lt_eq, sm_l, sm_r, os_s, os_n, cki_nI, cki_0, cki_1, ck_bI, nI_clamp, cl0, cl1, nI_add, nI_mul, nI_1, nI_a0, nI_0a, nI_1a, nI_1m, aL2, La2, mL2, cL2, kL2, aL3, La3, mL3, cL3, kL3, aL4, La4, mL4, cL4, kL4, aL5, La5, mL5, cL5, kL5, aL6, La6, mL6, cL6, kL6, aL7, La7, mL7, cL7, kL7, aL8, La8, mL8, cL8, kL8, aL9, La9, mL9, cL9, kL9, aL10, La10, mL10, cL10, kL10, aL11, La11, mL11, cL11, kL11, aL12, La12, mL12, cL12, kL12, aL13, La13, mL13, cL13, kL13, aL14, La14, mL14, cL14, kL14, aL15, La15, mL15, cL15, kL15, aL16, La16, mL16, cL16, kL16, aL20, La20, mL20, cL20, kL20, aL21, La21, mL21, cL21, kL21, aL24, La24, mL24, cL24, kL24, aL27, La27, mL27, cL27, kL27, aL30, La30, mL30, cL30, kL30, aL31, La31, mL31, cL31, kL31, aL32, La32, mL32, cL32, kL32, aL48, La48, mL48, cL48, kL48, aL60, La60, mL60, cL60, kL60, aL83, La83, mL83, cL83, kL83, aL97, La97, mL97, cL97, kL97, aL99, La99, mL99, cL99, kL99, aL120, La120, mL120, cL120, kL120, aL122, La122, mL122, cL122, kL122, aL124, La124, mL124, cL124, kL124, aL163, La163, mL163, cL163, kL163, aL177, La177, mL177, cL177, kL177, aL200, La200, mL200, cL200, kL200, aL205, La205, mL205, cL205, kL205, aL255, La255, mL255, cL255, kL255, aL331, La331, mL331, cL331, kL331, aL480, La480, mL480, cL480, kL480, aL999, La999, mL999, cL999, kL999, aL1171, La1171, mL1171, cL1171, kL1171, aL1200, La1200, mL1200, cL1200, kL1200, aL2000, La2000, mL2000, cL2000, kL2000, aL4771, La4771, mL4771, cL4771, kL4771, aL6211, La6211, mL6211, cL6211, kL6211, aL6214, La6214, mL6214, cL6214, kL6214, aL6391, La6391, mL6391, cL6391, kL6391, aL8000, La8000, mL8000, cL8000, kL8000, aL9999, La9999, mL9999, cL9999, kL9999, aL20000, La20000, mL20000, cL20000, kL20000, aL96000, La96000, mL96000, cL96000, kL96000, nI_leI, nI_ltI, ne_bI, eq_bI, if_pos, if_neg, f_X0_hash_L6, j5, bt]
    · rw [if_neg hc, if_neg hc]
      rfl
  · have eb := e.bytes
    unfold f_X11_digest
    rw [m_isStoredX h'.fx h'.w, ob_some, e.net]
    simp only [lt_eq]
    rw [e_passes, ob_some]
    simp only [ne_bI]
    by_cases hc : (0 ≤ x ∧ x < ai S 198 8) ∧ isN (ai S 198) x.toNatClampNeg = 1
    · obtain ⟨q, hq, hq2, rfl, hq3⟩ := ixP h hc
      have b := (h.w.wP q hq).1.2
      have bq := (h.w.wP q hq).1.1
      rw [if_pos hc, nI_clamp (by omega)]
      have hx := fx_thr h'.fx (if ¬ ((0 ≤ nI q ∧ nI q < ai S 198 8) ∧ isN (ai S 198) (nI q).toNatClampNeg = 1) then 1 else 0)
      have e3 := eqv_thr S' (if ¬ ((0 ≤ nI q ∧ nI q < ai S 198 8) ∧ isN (ai S 198) (nI q).toNatClampNeg = 1) then 1 else 0)
      have e4 := th0 S' (if ¬ ((0 ≤ nI q ∧ nI q < ai S 198 8) ∧ isN (ai S 198) (nI q).toNatClampNeg = 1) then 1 else 0)
      have e5 : al (ui S' 1000 197 (if ¬ ((0 ≤ nI q ∧ nI q < ai S 198 8) ∧ isN (ai S 198) (nI q).toNatClampNeg = 1) then 1 else 0)) = al S' := rfl
      rw [nI_clamp (by omega)] at hx e3 e4 e5
      generalize ui S' 1000 197 (if ¬ ((0 ≤ nI q ∧ nI q < ai S 198 8) ∧ isN (ai S 198) q = 1) then 1 else 0) = T at hx e3 e4 e5
      have aT : ai T 198 = ai S 198 := e3.net.trans e.net
      have aB : ai T 200 = ai S 200 := e3.bytes.trans eb
      have ln0 : lenN (ai S 198) q = nI (kN (ai S 198) (4771 + 3 * q)) := bq
      refine ⟨_, T, loopR0 (fun fu k a => f_X11_digest_L21 F fu T 197 (nI q) a (nI k)) (kN (ai S 198) (4771 + 3 * q)) (fun k (a : Int64) => (a ^^^ ((ai S 200 (200 * q + k)) &&& 255).toInt64) * 1099511628211) (fun a => (a, T)) (-3750763034362895579) (by omega) (fun fu a => ?_) (fun fu k a hk => ?_), e3, e5, e4, fun _ => rfl⟩
      · simp (disch := first | assumption | omega) only [ob_some, lt_eq, sm_l, sm_r, os_s, os_n, cki_nI, cki_0, cki_1, ck_bI, nI_clamp, cl0, cl1, nI_add, nI_mul, nI_1, nI_a0, nI_0a, nI_1a, nI_1m, aL2, La2, mL2, cL2, kL2, aL3, La3, mL3, cL3, kL3, aL4, La4, mL4, cL4, kL4, aL5, La5, mL5, cL5, kL5, aL6, La6, mL6, cL6, kL6, aL7, La7, mL7, cL7, kL7, aL8, La8, mL8, cL8, kL8, aL9, La9, mL9, cL9, kL9, aL10, La10, mL10, cL10, kL10, aL11, La11, mL11, cL11, kL11, aL12, La12, mL12, cL12, kL12, aL13, La13, mL13, cL13, kL13, aL14, La14, mL14, cL14, kL14, aL15, La15, mL15, cL15, kL15, aL16, La16, mL16, cL16, kL16, aL20, La20, mL20, cL20, kL20, aL21, La21, mL21, cL21, kL21, aL24, La24, mL24, cL24, kL24, aL27, La27, mL27, cL27, kL27, aL30, La30, mL30, cL30, kL30, aL31, La31, mL31, cL31, kL31, aL32, La32, mL32, cL32, kL32, aL48, La48, mL48, cL48, kL48, aL60, La60, mL60, cL60, kL60, aL83, La83, mL83, cL83, kL83, aL97, La97, mL97, cL97, kL97, aL99, La99, mL99, cL99, kL99, aL120, La120, mL120, cL120, kL120, aL122, La122, mL122, cL122, kL122, aL124, La124, mL124, cL124, kL124, aL163, La163, mL163, cL163, kL163, aL177, La177, mL177, cL177, kL177, aL200, La200, mL200, cL200, kL200, aL205, La205, mL205, cL205, kL205, aL255, La255, mL255, cL255, kL255, aL331, La331, mL331, cL331, kL331, aL480, La480, mL480, cL480, kL480, aL999, La999, mL999, cL999, kL999, aL1171, La1171, mL1171, cL1171, kL1171, aL1200, La1200, mL1200, cL1200, kL1200, aL2000, La2000, mL2000, cL2000, kL2000, aL4771, La4771, mL4771, cL4771, kL4771, aL6211, La6211, mL6211, cL6211, kL6211, aL6214, La6214, mL6214, cL6214, kL6214, aL6391, La6391, mL6391, cL6391, kL6391, aL8000, La8000, mL8000, cL8000, kL8000, aL9999, La9999, mL9999, cL9999, kL9999, aL20000, La20000, mL20000, cL20000, kL20000, aL96000, La96000, mL96000, cL96000, kL96000, nI_leI, nI_ltI, ne_bI, eq_bI, if_pos, if_neg, f_X11_digest_L21, m_len hx hq2, aT, ln0]
      · simp (disch := first | assumption | omega) only [ob_some, lt_eq, sm_l, sm_r, os_s, os_n, cki_nI, cki_0, cki_1, ck_bI, nI_clamp, cl0, cl1, nI_add, nI_mul, nI_1, nI_a0, nI_0a, nI_1a, nI_1m, aL2, La2, mL2, cL2, kL2, aL3, La3, mL3, cL3, kL3, aL4, La4, mL4, cL4, kL4, aL5, La5, mL5, cL5, kL5, aL6, La6, mL6, cL6, kL6, aL7, La7, mL7, cL7, kL7, aL8, La8, mL8, cL8, kL8, aL9, La9, mL9, cL9, kL9, aL10, La10, mL10, cL10, kL10, aL11, La11, mL11, cL11, kL11, aL12, La12, mL12, cL12, kL12, aL13, La13, mL13, cL13, kL13, aL14, La14, mL14, cL14, kL14, aL15, La15, mL15, cL15, kL15, aL16, La16, mL16, cL16, kL16, aL20, La20, mL20, cL20, kL20, aL21, La21, mL21, cL21, kL21, aL24, La24, mL24, cL24, kL24, aL27, La27, mL27, cL27, kL27, aL30, La30, mL30, cL30, kL30, aL31, La31, mL31, cL31, kL31, aL32, La32, mL32, cL32, kL32, aL48, La48, mL48, cL48, kL48, aL60, La60, mL60, cL60, kL60, aL83, La83, mL83, cL83, kL83, aL97, La97, mL97, cL97, kL97, aL99, La99, mL99, cL99, kL99, aL120, La120, mL120, cL120, kL120, aL122, La122, mL122, cL122, kL122, aL124, La124, mL124, cL124, kL124, aL163, La163, mL163, cL163, kL163, aL177, La177, mL177, cL177, kL177, aL200, La200, mL200, cL200, kL200, aL205, La205, mL205, cL205, kL205, aL255, La255, mL255, cL255, kL255, aL331, La331, mL331, cL331, kL331, aL480, La480, mL480, cL480, kL480, aL999, La999, mL999, cL999, kL999, aL1171, La1171, mL1171, cL1171, kL1171, aL1200, La1200, mL1200, cL1200, kL1200, aL2000, La2000, mL2000, cL2000, kL2000, aL4771, La4771, mL4771, cL4771, kL4771, aL6211, La6211, mL6211, cL6211, kL6211, aL6214, La6214, mL6214, cL6214, kL6214, aL6391, La6391, mL6391, cL6391, kL6391, aL8000, La8000, mL8000, cL8000, kL8000, aL9999, La9999, mL9999, cL9999, kL9999, aL20000, La20000, mL20000, cL20000, kL20000, aL96000, La96000, mL96000, cL96000, kL96000, nI_leI, nI_ltI, ne_bI, eq_bI, if_pos, if_neg, f_X11_digest_L21, f_X11_partByteAt, m_len hx hq2, aT, ln0, hx.r1003_197, hx.l200, aB]
    · rw [if_neg hc]
      exact ⟨0, _, rfl, eqv_thr S' _, rfl, th0 _ _, fun z => absurd z hc⟩
theorem m_firstWith {B : Nat → Int32} (hx : FxF S) (w : WB (ai S 198) B) {q m : Nat} (hq : q < 480) (hm : m < kN (ai S 198) 7) (h1 : hasN (ai S 198) m q) (h2 : ∀ m', m' < m → ¬ hasN (ai S 198) m' q) (hF : 1000 ≤ F) : f_X11_firstWith F S 197 (nI q) = some (nI m, S) := by
  have b7 := w.n7.2
  have g : ∀ d k fu, k + d = m → d < fu → f_X11_firstWith_L2 F fu S 197 (nI q) (nI k) = some (nI m, S) := by
    intro d
    induction d with
    | zero =>
      intro k fu hk hfu
      obtain ⟨fu, rfl⟩ : ∃ f', fu = f' + 1 := ⟨fu - 1, by omega⟩
      have : k = m := by omega
      subst this
      simp (disch := first | assumption | omega) only [ob_some, lt_eq, sm_l, sm_r, os_s, os_n, cki_nI, cki_0, cki_1, ck_bI, nI_clamp, cl0, cl1, nI_add, nI_mul, nI_1, nI_a0, nI_0a, nI_1a, nI_1m, aL2, La2, mL2, cL2, kL2, aL3, La3, mL3, cL3, kL3, aL4, La4, mL4, cL4, kL4, aL5, La5, mL5, cL5, kL5, aL6, La6, mL6, cL6, kL6, aL7, La7, mL7, cL7, kL7, aL8, La8, mL8, cL8, kL8, aL9, La9, mL9, cL9, kL9, aL10, La10, mL10, cL10, kL10, aL11, La11, mL11, cL11, kL11, aL12, La12, mL12, cL12, kL12, aL13, La13, mL13, cL13, kL13, aL14, La14, mL14, cL14, kL14, aL15, La15, mL15, cL15, kL15, aL16, La16, mL16, cL16, kL16, aL20, La20, mL20, cL20, kL20, aL21, La21, mL21, cL21, kL21, aL24, La24, mL24, cL24, kL24, aL27, La27, mL27, cL27, kL27, aL30, La30, mL30, cL30, kL30, aL31, La31, mL31, cL31, kL31, aL32, La32, mL32, cL32, kL32, aL48, La48, mL48, cL48, kL48, aL60, La60, mL60, cL60, kL60, aL83, La83, mL83, cL83, kL83, aL97, La97, mL97, cL97, kL97, aL99, La99, mL99, cL99, kL99, aL120, La120, mL120, cL120, kL120, aL122, La122, mL122, cL122, kL122, aL124, La124, mL124, cL124, kL124, aL163, La163, mL163, cL163, kL163, aL177, La177, mL177, cL177, kL177, aL200, La200, mL200, cL200, kL200, aL205, La205, mL205, cL205, kL205, aL255, La255, mL255, cL255, kL255, aL331, La331, mL331, cL331, kL331, aL480, La480, mL480, cL480, kL480, aL999, La999, mL999, cL999, kL999, aL1171, La1171, mL1171, cL1171, kL1171, aL1200, La1200, mL1200, cL1200, kL1200, aL2000, La2000, mL2000, cL2000, kL2000, aL4771, La4771, mL4771, cL4771, kL4771, aL6211, La6211, mL6211, cL6211, kL6211, aL6214, La6214, mL6214, cL6214, kL6214, aL6391, La6391, mL6391, cL6391, kL6391, aL8000, La8000, mL8000, cL8000, kL8000, aL9999, La9999, mL9999, cL9999, kL9999, aL20000, La20000, mL20000, cL20000, kL20000, aL96000, La96000, mL96000, cL96000, kL96000, nI_leI, nI_ltI, ne_bI, eq_bI, f_X11_firstWith_L2, m_has hx w hm hq hF, pI_n0, pif_t h1]
    | succ d ih =>
      intro k fu hk hfu
      obtain ⟨fu, rfl⟩ : ∃ f', fu = f' + 1 := ⟨fu - 1, by omega⟩
      simp (disch := first | assumption | omega) only [ob_some, lt_eq, sm_l, sm_r, os_s, os_n, cki_nI, cki_0, cki_1, ck_bI, nI_clamp, cl0, cl1, nI_add, nI_mul, nI_1, nI_a0, nI_0a, nI_1a, nI_1m, aL2, La2, mL2, cL2, kL2, aL3, La3, mL3, cL3, kL3, aL4, La4, mL4, cL4, kL4, aL5, La5, mL5, cL5, kL5, aL6, La6, mL6, cL6, kL6, aL7, La7, mL7, cL7, kL7, aL8, La8, mL8, cL8, kL8, aL9, La9, mL9, cL9, kL9, aL10, La10, mL10, cL10, kL10, aL11, La11, mL11, cL11, kL11, aL12, La12, mL12, cL12, kL12, aL13, La13, mL13, cL13, kL13, aL14, La14, mL14, cL14, kL14, aL15, La15, mL15, cL15, kL15, aL16, La16, mL16, cL16, kL16, aL20, La20, mL20, cL20, kL20, aL21, La21, mL21, cL21, kL21, aL24, La24, mL24, cL24, kL24, aL27, La27, mL27, cL27, kL27, aL30, La30, mL30, cL30, kL30, aL31, La31, mL31, cL31, kL31, aL32, La32, mL32, cL32, kL32, aL48, La48, mL48, cL48, kL48, aL60, La60, mL60, cL60, kL60, aL83, La83, mL83, cL83, kL83, aL97, La97, mL97, cL97, kL97, aL99, La99, mL99, cL99, kL99, aL120, La120, mL120, cL120, kL120, aL122, La122, mL122, cL122, kL122, aL124, La124, mL124, cL124, kL124, aL163, La163, mL163, cL163, kL163, aL177, La177, mL177, cL177, kL177, aL200, La200, mL200, cL200, kL200, aL205, La205, mL205, cL205, kL205, aL255, La255, mL255, cL255, kL255, aL331, La331, mL331, cL331, kL331, aL480, La480, mL480, cL480, kL480, aL999, La999, mL999, cL999, kL999, aL1171, La1171, mL1171, cL1171, kL1171, aL1200, La1200, mL1200, cL1200, kL1200, aL2000, La2000, mL2000, cL2000, kL2000, aL4771, La4771, mL4771, cL4771, kL4771, aL6211, La6211, mL6211, cL6211, kL6211, aL6214, La6214, mL6214, cL6214, kL6214, aL6391, La6391, mL6391, cL6391, kL6391, aL8000, La8000, mL8000, cL8000, kL8000, aL9999, La9999, mL9999, cL9999, kL9999, aL20000, La20000, mL20000, cL20000, kL20000, aL96000, La96000, mL96000, cL96000, kL96000, nI_leI, nI_ltI, ne_bI, eq_bI, f_X11_firstWith_L2, m_has hx w (by omega : k < kN (ai S 198) 7) hq hF, pI_n0, pif_f (h2 k (by omega))]
      exact ih (k + 1) fu (by omega) (by omega)
  exact g m 0 F (by omega) (by omega)
theorem ok_26 (hF : 100000 ≤ F) (h : Rel S n) (hi : ∀ k : Nat, k < 6 → vp_in (i + nI k) L) : Ok (f_law26 F xs L S n 0 197 210 211 i) := by
  have h1 : vp_in (i + 1) L := hi 1 (by omega)
  have h2 : vp_in (i + 2) L := hi 2 (by omega)
  unfold f_law26 f_L_part
  simp only [cki_t h1, cki_t h2]
  generalize xs (Int32.toNatClampNeg (i + 1)) = x
  generalize xs (Int32.toNatClampNeg (i + 2)) = y
  by_cases hc : (0 ≤ x ∧ x < ai S 198 8) ∧ isN (ai S 198) x.toNatClampNeg = 1
  · obtain ⟨q, hq, hq2, rfl, hq3⟩ := ixP h hc
    rw [nI_clamp (by omega)] at hc
    obtain ⟨⟨jj, -⟩, ⟨m, f1, f2, f3, f4⟩, k1, k2⟩ := h.c0.cp.2 q hq
    have k2' : ai S (27 + 10) q = deN (ai S 198) q := by rw [k2, if_pos hq3]
    refine askC h (fm := fun S => f_X11_part F S 197 (nI q) y) ((0 ≤ nI q ∧ nI q < ai S 198 8) ∧ isN (ai S 198) q = 1) (0 ≤ y ∧ y < nI 4) (if y = 0 then lenN (ai S 198) q else if y = 1 then nI (kpN (ai S 198) q) else if y = 2 then deN (ai S 198) q else nI m) 4 2 S ?_ (Eqv.rf S) rfl rfl (fun S' h' e => ?_)
    · obtain ⟨j, j1, j2, j3, j4, j5, j6⟩ := e_bytesOf (F := F) h.c0 h.fx.sp27 hq
      have jl : nI (kN (ai S 198) (4771 + 3 * q)) = lenN (ai S 198) q := (h.w.wP q hq).1.1.symm
      have l8 := h.fx.sp27.l8
      have l9 := h.fx.sp27.l9
      have l10 := h.fx.sp27.l10
      unfold f_X10_part
      rw [e_needPart h, ob_some, nI_clamp (by omega), if_pos hc, if_pos hc, lt_eq, sm_r, show (3 : Int32) = nI 3 from rfl, e_needWhat y 3 (by omega), ob_some, lt_eq]
      by_cases hd : 0 ≤ y ∧ y < nI 4
      · rw [if_pos hd, if_pos hd, sm_r]
        simp only [h.fx.r905_0, h.fx.sp27.r710_0, h.fx.sp27.r805_6, h.fx.sp27.r806_6, h.fx.sp27.r804_6, ob_some, j1, j5, lt_eq, jl]
        rw [e_at (by omega) (by omega), e_at (by omega) (by omega), e_at (by omega) (by omega), k1, k2', f4]
        simp only [ob_some]
        by_cases y0 : y = 0
        · rw [if_pos y0, if_pos y0]
        rw [if_neg y0, if_neg y0]
        by_cases y1 : y = 1
        · rw [if_pos y1, if_pos y1]
          rfl
        rw [if_neg y1, if_neg y1]
        by_cases y2 : y = 2
        · rw [if_pos y2, if_pos y2]
        · rw [if_neg y2, if_neg y2]
      · rw [if_neg hd, if_neg hd]
        rfl
    · have hs : f_X11_isStored F S' 197 (nI q) = some (bI ((0 ≤ nI q ∧ nI q < ai S 198 8) ∧ isN (ai S 198) q = 1), S') := by
        have := m_isStoredX (F := F) h'.fx h'.w (nI q)
        rw [e.net, nI_clamp (by omega)] at this
        exact this
      refine mdl2n (F := F) h' ((0 ≤ nI q ∧ nI q < ai S 198 8) ∧ isN (ai S 198) q = 1) (0 ≤ y ∧ y < nI 4) _ (chk := f_X11_isStored F S' 197 (nI q)) (chk2 := fun S2 => f_X11_in F S2 y.toInt64 0 3) rfl hs (e_inK F S' y 3 (by omega)) (fun _ hd T ht hx w => noW ?_)
      have aT : ai T 198 = ai S 198 := by rw [ht, e.net]
      have e1 := m_len (F := F) hx hq2
      have e2 := m_de (F := F) hx hq2
      have e3 := m_keepers (F := F) hx w hq2 (by omega)
      have e4 := m_firstWith (F := F) hx w hq2 (m := m) (by rw [aT]; exact f1) (by rw [aT]; exact f2) (by rw [aT]; exact f3) (by omega)
      rw [aT] at e1 e2 e3
      simp only [e1, e2, e3, e4, ob_some, lt_eq]
      by_cases y0 : y = 0
      · rw [if_neg (fun z => z y0), if_pos y0]
      rw [if_pos y0, if_neg y0]
      by_cases y1 : y = 1
      · rw [if_neg (fun z => z y1), if_pos y1]
        rfl
      rw [if_pos y1, if_neg y1]
      by_cases y2 : y = 2
      · rw [if_neg (fun z => z y2), if_pos y2]
      · rw [if_pos y2, if_neg y2]
  · refine askC h (fm := fun S => f_X11_part F S 197 x y) ((0 ≤ x ∧ x < ai S 198 8) ∧ isN (ai S 198) x.toNatClampNeg = 1) (0 ≤ y ∧ y < nI 4) 0 4 2 S ?_ (Eqv.rf S) rfl rfl (fun S' h' e => ?_)
    · unfold f_X10_part
      rw [e_needPart h, ob_some, if_neg hc, if_neg hc]
      rfl
    · exact mdl2n (F := F) h' ((0 ≤ x ∧ x < ai S 198 8) ∧ isN (ai S 198) x.toNatClampNeg = 1) (0 ≤ y ∧ y < nI 4) _ (chk := f_X11_isStored F S' 197 x) (chk2 := fun S2 => f_X11_in F S2 y.toInt64 0 3) rfl (by rw [m_isStoredX h'.fx h'.w, e.net]) (e_inK F S' y 3 (by omega)) (fun z => absurd z hc)
theorem ok_27 (hF : 100000 ≤ F) (h : Rel S n) (hi : ∀ k : Nat, k < 6 → vp_in (i + nI k) L) : Ok (f_law27 F xs L S n 0 197 210 211 i) := by
  have h1 : vp_in (i + 1) L := hi 1 (by omega)
  have h2 : vp_in (i + 2) L := hi 2 (by omega)
  unfold f_law27 f_L_partByte
  simp only [cki_t h1, cki_t h2]
  generalize xs (Int32.toNatClampNeg (i + 1)) = x
  generalize xs (Int32.toNatClampNeg (i + 2)) = y
  refine askC h (fm := fun S => f_X11_partByte F S 197 x y) ((0 ≤ x ∧ x < ai S 198 8) ∧ isN (ai S 198) x.toNatClampNeg = 1) (0 ≤ y ∧ y < nI (kN (ai S 198) (4771 + 3 * x.toNatClampNeg))) (ai S 200 (200 * x.toNatClampNeg + y.toNatClampNeg) &&& 255) 4 3 S ?_ (Eqv.rf S) rfl rfl (fun S' h' e => ?_)
  · unfold f_X10_partByte f_X10_partByte_L29
    rw [e_needPart h, ob_some]
    by_cases hc : (0 ≤ x ∧ x < ai S 198 8) ∧ isN (ai S 198) x.toNatClampNeg = 1
    · obtain ⟨q, hq, hq2, rfl, hq3⟩ := ixP h hc
      obtain ⟨j, j1, j2, j3, j4, j5, j6⟩ := e_bytesOf (F := F) h.c0 h.fx.sp27 hq
      have b := (h.w.wP q hq).1.2
      rw [if_pos hc, if_pos hc, nI_clamp (by omega)]
      simp only [lt_eq, sm_r, h.fx.r905_0, h.fx.sp27.r710_0, ob_some, j1, j5]
      by_cases c1 : y < 0
      · rw [if_pos c1, if_neg (fun z => (le_nlt.mp z.1) c1)]
      rw [if_neg c1]
      by_cases c2 : y < nI (kN (ai S 198) (4771 + 3 * q))
      · obtain ⟨k, hk, rfl⟩ := ix (by omega) ⟨le_nlt.mpr c1, c2⟩
        rw [if_pos c2, if_pos ⟨le_nlt.mpr c1, c2⟩, e_byteAt F (S := S) (r := j + 1) j3 j5 (by omega) (by omega) hk, ob_some, nI_clamp (by omega), j6 k hk]
      · rw [if_neg c2, if_neg (fun z => c2 z.2)]
    · rw [if_neg hc, if_neg hc]
      rfl
  · have eb := e.bytes
    have key : ∀ (p q : Prop) [Decidable p] [Decidable q] (v : Int32), (p → q → ∀ T, FxF T → ai T 200 = ai S 200 → f_X11_partByteAt F T 197 x y = some (v, T)) → ∃ r S2, f_X11_partByte_L37 F S' 197 x y (bI q) (bI p) 197 = some (r, S2) ∧ Eqv S' S2 ∧ al S2 = al S' ∧ si S2 1000 197 = (if ¬ p then 1 else if ¬ q then 2 else 0) ∧ (p → q → r = v &&& 255) := by
      intro p q _ _ v hv
      refine ⟨if p ∧ q then v &&& 255 else 0, _, ?_, eqv_thr S' (if ¬ p then 1 else if ¬ q then 2 else 0), rfl, th0 _ _, fun hp hq => if_pos ⟨hp, hq⟩⟩
      unfold f_X11_partByte_L37
      rw [e_passes2, ob_some]
      simp only [lt_eq, eq_bI]
      by_cases hp : p ∧ q
      · rw [if_pos hp, hv hp.1 hp.2 _ (fx_thr h'.fx _) eb, ob_some, if_pos hp]
      · rw [if_neg hp, if_neg hp]
    unfold f_X11_partByte f_X11_partByte_L32
    rw [m_isStoredX h'.fx h'.w, ob_some, e.net]
    simp only [lt_eq]
    rw [m_isStoredX h'.fx h'.w, ob_some, e.net]
    simp only [lt_eq, eq_bI]
    by_cases hc : (0 ≤ x ∧ x < ai S 198 8) ∧ isN (ai S 198) x.toNatClampNeg = 1
    · obtain ⟨q, hq, hq2, rfl, hq3⟩ := ixP h hc
      have b := (h.w.wP q hq).1.2
      have ln0 : lenN (ai S 198) q = nI (kN (ai S 198) (4771 + 3 * q)) := (h.w.wP q hq).1.1
      rw [if_pos hc, m_len h'.fx hq2, ob_some, e.net, ln0, e_in0 F S' y (by omega), ob_some]
      simp only [lt_eq, eq_bI]
      rw [nI_clamp (by omega)] at hc ⊢
      have k2 := key ((0 ≤ nI q ∧ nI q < ai S 198 8) ∧ isN (ai S 198) q = 1) (0 ≤ y ∧ y < nI (kN (ai S 198) (4771 + 3 * q))) (ai S 200 (200 * q + y.toNatClampNeg)) (fun _ hd T hx ht => by
        obtain ⟨k, hk, rfl⟩ := ix (by omega) hd
        simp (disch := first | assumption | omega) only [ob_some, lt_eq, sm_l, sm_r, os_s, os_n, cki_nI, cki_0, cki_1, ck_bI, nI_clamp, cl0, cl1, nI_add, nI_mul, nI_1, nI_a0, nI_0a, nI_1a, nI_1m, aL2, La2, mL2, cL2, kL2, aL3, La3, mL3, cL3, kL3, aL4, La4, mL4, cL4, kL4, aL5, La5, mL5, cL5, kL5, aL6, La6, mL6, cL6, kL6, aL7, La7, mL7, cL7, kL7, aL8, La8, mL8, cL8, kL8, aL9, La9, mL9, cL9, kL9, aL10, La10, mL10, cL10, kL10, aL11, La11, mL11, cL11, kL11, aL12, La12, mL12, cL12, kL12, aL13, La13, mL13, cL13, kL13, aL14, La14, mL14, cL14, kL14, aL15, La15, mL15, cL15, kL15, aL16, La16, mL16, cL16, kL16, aL20, La20, mL20, cL20, kL20, aL21, La21, mL21, cL21, kL21, aL24, La24, mL24, cL24, kL24, aL27, La27, mL27, cL27, kL27, aL30, La30, mL30, cL30, kL30, aL31, La31, mL31, cL31, kL31, aL32, La32, mL32, cL32, kL32, aL48, La48, mL48, cL48, kL48, aL60, La60, mL60, cL60, kL60, aL83, La83, mL83, cL83, kL83, aL97, La97, mL97, cL97, kL97, aL99, La99, mL99, cL99, kL99, aL120, La120, mL120, cL120, kL120, aL122, La122, mL122, cL122, kL122, aL124, La124, mL124, cL124, kL124, aL163, La163, mL163, cL163, kL163, aL177, La177, mL177, cL177, kL177, aL200, La200, mL200, cL200, kL200, aL205, La205, mL205, cL205, kL205, aL255, La255, mL255, cL255, kL255, aL331, La331, mL331, cL331, kL331, aL480, La480, mL480, cL480, kL480, aL999, La999, mL999, cL999, kL999, aL1171, La1171, mL1171, cL1171, kL1171, aL1200, La1200, mL1200, cL1200, kL1200, aL2000, La2000, mL2000, cL2000, kL2000, aL4771, La4771, mL4771, cL4771, kL4771, aL6211, La6211, mL6211, cL6211, kL6211, aL6214, La6214, mL6214, cL6214, kL6214, aL6391, La6391, mL6391, cL6391, kL6391, aL8000, La8000, mL8000, cL8000, kL8000, aL9999, La9999, mL9999, cL9999, kL9999, aL20000, La20000, mL20000, cL20000, kL20000, aL96000, La96000, mL96000, cL96000, kL96000, nI_leI, nI_ltI, ne_bI, eq_bI, if_pos, if_neg, f_X11_partByteAt, hx.r1003_197, hx.l200, ht])
      by_cases hd : 0 ≤ y ∧ y < nI (kN (ai S 198) (4771 + 3 * q))
      · rw [if_pos hd]
        rw [bI_t hd] at k2
        exact k2
      · rw [if_neg hd]
        rw [bI_f hd] at k2
        exact k2
    · rw [if_neg hc]
      have k2 := key ((0 ≤ x ∧ x < ai S 198 8) ∧ isN (ai S 198) x.toNatClampNeg = 1) True 0 (fun z => absurd z hc)
      rw [bI_t trivial] at k2
      obtain ⟨r, S2, a1, a2, a3, a4, a5⟩ := k2
      exact ⟨r, S2, a1, a2, a3, by rw [a4, if_pos hc, if_pos hc], fun z => absurd z hc⟩
end A
