/-! the class is asked -/
section As
variable {F : Nat} {S : St} {n : Nat} {N B : Nat → Int32}
theorem a_needMsg (hx : FxF S) (cl : Cl S n 27 N B) {m : Nat} (hm : m < kN N 7) : f_X10_needMessage F S 0 (nI m) = some (.inr (), S) := by
  have b7 := cl.c0.wb.n7.2
  unfold f_X10_needMessage
  rw [if_neg (nI_pos (by omega)), hx.r905_0, ob_some, cl.c0.s705, if_pos (nI_lt hm (by omega))]
theorem a_needRef (hx : FxF S) (cl : Cl S n 27 N B) {m u : Nat} (hm : m < kN N 7) (hu : u < kN N 4) (hs : ¬ stN N m u = -1) : f_X10_needReference F S 0 (nI m) (nI u) = some (.inr (), S) := by
  unfold f_X10_needReference
  rw [hx.r905_0, ob_some, e_state cl.c0 hx.sp27 hm hu, ob_some]
  simp only [lt_eq]
  rw [if_pos hs]
theorem a_needPart (hx : FxF S) (cl : Cl S n 27 N B) {q : Nat} (hq : q < kN N 8) (hs : isN N q = 1) : f_X10_needPart F S 0 (nI q) = some (.inr (), S) := by
  unfold f_X10_needPart
  rw [hx.r905_0, ob_some, hx.sp27.r710_0, ob_some, show f_X9_isStored F S 33 (nI q) = _ from e_isStored cl.c0 hx.sp27 hq, ob_some]
  simp only [lt_eq]
  rw [bI_t hs, if_pos (show ¬ (1 : Int32) = 0 by decide)]
theorem a_bounced (hx : FxF S) (cl : Cl S n 27 N B) : f_X10_bounced F S 0 = some (N 10, S) := by
  unfold f_X10_bounced
  rw [hx.r905_0, ob_some, cl.c0.s702]
theorem a_state (hx : FxF S) (cl : Cl S n 27 N B) {m u : Nat} (hm : m < kN N 7) (hu : u < kN N 4) (hs : ¬ stN N m u = -1) : f_X10_state F S 0 (nI m) (nI u) = some (.inr (stN N m u), S) := by
  unfold f_X10_state
  rw [a_needRef hx cl hm hu hs, ob_some]
  simp only [lt_eq, sm_r]
  rw [hx.r905_0, ob_some, e_state cl.c0 hx.sp27 hm hu, ob_some]
theorem a_classOf (hx : FxF S) (cl : Cl S n 27 N B) {m u : Nat} (hm : m < kN N 7) (hu : u < kN N 4) (hs : ¬ stN N m u = -1) : f_X10_classOf F S 0 (nI m) (nI u) = some (.inr (clN N m u), S) := by
  unfold f_X10_classOf
  rw [a_needRef hx cl hm hu hs, ob_some]
  simp only [lt_eq, sm_r]
  rw [hx.r905_0, ob_some, e_retOf cl.c0 hx.sp27 hm hu, ob_some]
theorem a_entered (hx : FxF S) (cl : Cl S n 27 N B) {m u : Nat} (hm : m < kN N 7) (hu : u < kN N 4) (hs : ¬ stN N m u = -1) : f_X10_enteredOn F S 0 (nI m) (nI u) = some (.inr (enN N m u), S) := by
  have b4 := cl.c0.wb.n4.2
  unfold f_X10_enteredOn
  rw [a_needRef hx cl hm hu hs, ob_some]
  simp only [lt_eq, sm_r]
  rw [hx.r905_0, ob_some, hx.sp27.r709_0, ob_some, e_entOf cl.c0 hx.sp27 hm (by omega), ob_some]
theorem a_readers (hx : FxF S) (cl : Cl S n 27 N B) {m : Nat} (hm : m < kN N 7) (hF : 1000 ≤ F) : f_X10_readers F S 0 (nI m) = some (.inr (nI (bitsN (fun u => 0 ≤ stN N m u ∧ stN N m u ≤ 0) (kN N 4))), S) := by
  unfold f_X10_readers
  rw [a_needMsg hx cl hm, ob_some]
  simp only [lt_eq, sm_r]
  rw [hx.r905_0, ob_some, e_usersSet cl.c0 hx.sp27 hm 0 0 hF, ob_some]
/-- what the message's object says -/
theorem a_msgO (hx : FxF S) (cl : Cl S n 27 N B) {m : Nat} (hm : m < kN N 7) : ∃ j, f_X8_messageAt F S 27 (nI m) = some (some j, S) ∧ sr S 303 j = some (j + 1) ∧ ln S (j + 1) = manyN N m ∧ si S 302 j = nI (szN N m) ∧ ∀ i, i < manyN N m → ai S (j + 1) i = N (334 + 7 * m + i) := by
  obtain ⟨j', j1, j2⟩ := e_msgAt (F := F) cl.c0 hx.sp27 hm
  obtain ⟨j, g1, g2, g3, g4, g5, g6, g7, g8, -⟩ := cl.c0.cm m hm
  have : j' = j := by
    rw [g1] at j1
    exact (Option.some.inj j1).symm
  subst this
  exact ⟨j', j2, g3, g4, g7, g8⟩
theorem a_partOf (hx : FxF S) (cl : Cl S n 27 N B) {m i : Nat} (hm : m < kN N 7) (hi : i < manyN N m) : f_X10_partOf F S 0 (nI m) (nI i) = some (.inr (N (334 + 7 * m + i)), S) := by
  have b4 := (cl.c0.wb.wM m hm).2.2.2.1.2
  have m4 : manyN N m ≤ 4 := b4
  obtain ⟨j, j1, j2, j3, j4, j5⟩ := a_msgO (F := F) hx cl hm
  unfold f_X10_partOf
  rw [a_needMsg hx cl hm, ob_some]
  simp only [lt_eq, sm_r]
  rw [hx.r905_0, ob_some, j1, ob_some]
  simp only []
  rw [ob_some, if_neg (nI_pos (by omega)), j2, ob_some, j3, if_pos (nI_lt hi (by omega)), ob_some, e_at (by omega) (by omega), ob_some, j5 i hi]
theorem a_msg2 (hx : FxF S) (cl : Cl S n 27 N B) {m : Nat} (hm : m < kN N 7) : f_X10_message F S 0 (nI m) 2 = some (.inr (nI (manyN N m)), S) := by
  obtain ⟨j, j1, j2, j3, j4, j5⟩ := a_msgO (F := F) hx cl hm
  unfold f_X10_message
  rw [a_needMsg hx cl hm, ob_some]
  simp only [lt_eq, sm_r]
  rw [show (4 : Int32) = nI 4 from rfl, e_needWhat _ _ (by omega), ob_some, if_pos (by decide)]
  simp only [sm_r]
  rw [hx.r905_0, ob_some, j1, ob_some]
  simp only []
  rw [ob_some, if_neg (by decide), if_neg (by decide), if_pos (by decide), j2, ob_some, j3]
theorem a_msg3 (hx : FxF S) (cl : Cl S n 27 N B) {m : Nat} (hm : m < kN N 7) : f_X10_message F S 0 (nI m) 3 = some (.inr (nI (szN N m)), S) := by
  obtain ⟨j, j1, j2, j3, j4, j5⟩ := a_msgO (F := F) hx cl hm
  unfold f_X10_message
  rw [a_needMsg hx cl hm, ob_some]
  simp only [lt_eq, sm_r]
  rw [show (4 : Int32) = nI 4 from rfl, e_needWhat _ _ (by omega), ob_some, if_pos (by decide)]
  simp only [sm_r]
  rw [hx.r905_0, ob_some, j1, ob_some]
  simp only []
  rw [ob_some, if_neg (by decide), if_neg (by decide), if_neg (by decide), if_pos (by decide), j4]
theorem a_msg4 (hx : FxF S) (cl : Cl S n 27 N B) {m : Nat} (hm : m < kN N 7) (hk : keptN N m) (hF : 1000 ≤ F) : f_X10_message F S 0 (nI m) 4 = some (.inr 1, S) := by
  obtain ⟨j, j1, j2, j3, j4, j5⟩ := a_msgO (F := F) hx cl hm
  unfold f_X10_message
  rw [a_needMsg hx cl hm, ob_some]
  simp only [lt_eq, sm_r]
  rw [show (4 : Int32) = nI 4 from rfl, e_needWhat _ _ (by omega), ob_some, if_pos (by decide)]
  simp only [sm_r]
  rw [hx.r905_0, ob_some, j1, ob_some]
  simp only []
  rw [ob_some, if_neg (by decide), if_neg (by decide), if_neg (by decide), if_neg (by decide), hx.r905_0, ob_some, e_keeps cl.c0 hx.sp27 hm hF, ob_some]
  simp only []
  rw [pI_t hk, if_neg (show ¬ (1 : Int32) = 0 by decide)]
theorem a_storedParts (hx : FxF S) (cl : Cl S n 27 N B) : f_X10_storedParts F S 0 = some (nI (cntP (fun q => isN N q = 1) (kN N 8)), S) := by
  have q1 : si S 801 33 = _ := cl.c0.cp.1.2.1
  unfold f_X10_storedParts
  rw [hx.r905_0, ob_some, hx.sp27.r710_0, ob_some, q1]
theorem a_storedBytes (hx : FxF S) (cl : Cl S n 27 N B) (hF : 1000 ≤ F) : f_X10_storedBytes F S 0 = some (stoN N, S) := by
  unfold f_X10_storedBytes
  rw [hx.r905_0, ob_some, hx.sp27.r710_0, ob_some, show f_X9_byteSum F S 33 0 = _ from e_byteSum cl.c0 hx.sp27 hF, ob_some]
  rfl
theorem a_deadBytes (hx : FxF S) (cl : Cl S n 27 N B) (hd : ∀ q, q < kN N 8 → deN N q = -1) (hF : 1000 ≤ F) : f_X10_deadBytes F S 0 = some (0, S) := by
  have q1 : si S 800 33 = N 8 := cl.c0.cp.1.1
  have b8 := cl.c0.wb.n8.2
  have e8 := cl.c0.wb.n8.1
  have loop : ∀ d k fu, k + d = kN N 8 → d < fu → f_X9_byteSum_L4 F fu S 33 1 0 (nI k) = some (0, S) := by
    intro d
    induction d with
    | zero =>
      intro k fu hk hfu
      obtain ⟨fu, rfl⟩ : ∃ q, fu = q + 1 := ⟨fu - 1, by omega⟩
      unfold f_X9_byteSum_L4
      rw [q1, e8, if_pos (nI_le (by omega) (by omega))]
    | succ d ih =>
      intro k fu hk hfu
      obtain ⟨fu, rfl⟩ : ∃ q, fu = q + 1 := ⟨fu - 1, by omega⟩
      have di : f_X9_isDead F S 33 (nI k) = _ := e_isDead cl.c0 hx.sp27 (q := k) (by omega)
      have := ih (k + 1) fu (by omega) (by omega)
      have one : ¬ (1 : Int32) = 0 := by decide
      unfold f_X9_byteSum_L4
      rw [q1, e8, if_neg (nI_ge (by omega) (by omega))]
      simp only [if_neg one, if_pos one, di, ob_some, lt_eq, bI_f (show ¬ (isN N k = 1 ∧ ¬ deN N k = -1) from fun z => z.2 (hd k (by omega)))]
      unfold f_X9_byteSum_L46
      rw [lt_eq, nI_1]
      exact this
  unfold f_X10_deadBytes f_X9_byteSum
  rw [hx.r905_0, ob_some, hx.sp27.r710_0, ob_some, show f_X9_byteSum_L4 F F S 33 1 0 0 = _ from loop (kN N 8) 0 F (by omega) (by omega), ob_some]
  rfl
theorem a_msgCount (hx : FxF S) (cl : Cl S n 27 N B) : f_X10_messageCount F S 0 = some (nI (kN N 7), S) := by
  unfold f_X10_messageCount
  rw [hx.r905_0, ob_some, cl.c0.s705]
theorem a_evCount (hx : FxF S) (cl : Cl S n 27 N B) : f_X10_eventCount F S 0 = some (N 9, S) := by
  have q1 : si S 204 40 = N 9 := cl.cj.1
  unfold f_X10_eventCount
  rw [hx.r905_0, ob_some, hx.sp27.r711_0, ob_some, q1]
theorem a_part0 (hx : FxF S) (cl : Cl S n 27 N B) {q : Nat} (hq : q < kN N 8) (hs : isN N q = 1) : f_X10_part F S 0 (nI q) 0 = some (.inr (nI (kN N (4771 + 3 * q))), S) := by
  obtain ⟨j, j1, j2, j3, j4, j5, j6⟩ := e_bytesOf (F := F) cl.c0 hx.sp27 hq
  unfold f_X10_part
  rw [a_needPart hx cl hq hs, ob_some]
  simp only [lt_eq, sm_r]
  rw [show (3 : Int32) = nI 3 from rfl, e_needWhat _ _ (by omega), ob_some, if_pos (by decide)]
  simp only [sm_r]
  rw [if_pos True.intro, hx.r905_0, ob_some, hx.sp27.r710_0, ob_some, show f_X9_bytesOf F S 33 (nI q) = _ from j1, ob_some]
  simp only []
  rw [ob_some, j5]
theorem a_part2 (hx : FxF S) (cl : Cl S n 27 N B) {q : Nat} (hq : q < kN N 8) (hs : isN N q = 1) : f_X10_part F S 0 (nI q) 2 = some (.inr (deN N q), S) := by
  have b8 := cl.c0.wb.n8.2
  have l := hx.sp27.l10
  unfold f_X10_part
  rw [a_needPart hx cl hq hs, ob_some]
  simp only [lt_eq, sm_r]
  rw [show (3 : Int32) = nI 3 from rfl, e_needWhat _ _ (by omega), ob_some, if_pos (by decide)]
  simp only [sm_r]
  rw [if_neg (by decide), if_neg (by decide), if_pos (by decide), hx.r905_0, ob_some, hx.sp27.r710_0, ob_some, hx.sp27.r806_6, ob_some, e_at (by rw [l]; omega) (by rw [l]; omega), ob_some, (cl.c0.cp.2 q hq).2.2.2, if_pos hs]
theorem a_digest (hx : FxF S) (cl : Cl S n 27 N B) {q : Nat} (hq : q < kN N 8) (hs : isN N q = 1) (hF : 1000 ≤ F) : f_X10_digest F S 0 (nI q) = some (.inr (runN (fun k (a : Int64) => (a ^^^ ((B (200 * q + k)) &&& 255).toInt64) * 1099511628211) (kN N (4771 + 3 * q)) 0 (-3750763034362895579)), S) := by
  obtain ⟨j, j1, j2, j3, j4, j5, j6⟩ := e_bytesOf (F := F) cl.c0 hx.sp27 hq
  have b := (cl.c0.wb.wP q hq).1.2
  unfold f_X10_digest
  rw [a_needPart hx cl hq hs, ob_some]
  simp only [lt_eq, sm_r]
  rw [hx.r905_0, ob_some, hx.sp27.r710_0, ob_some, show f_X9_bytesOf F S 33 (nI q) = _ from j1, ob_some]
  simp only []
  rw [ob_some]
  unfold f_X0_hash
  rw [lt_eq]
  have hh := loopR0 (fun fu k a => f_X0_hash_L6 F fu S j a (nI k)) (kN N (4771 + 3 * q)) (fun k (a : Int64) => (a ^^^ ((B (200 * q + k)) &&& 255).toInt64) * 1099511628211) (fun a => (a, S)) (F := F) (-3750763034362895579) (by omega) (fun fu a => ?_) (fun fu k a hk => ?_)
  · rw [show nI 0 = (0 : Int32) from rfl] at hh
    rw [hh]
    rfl
  · simp (disch := first | assumption | omega) only [ob_some, lt_eq, sm_l, sm_r, os_s, os_n, cki_nI, cki_0, cki_1, ck_bI, nI_clamp, cl0, cl1, nI_add, nI_mul, nI_1, nI_a0, nI_0a, nI_1a, nI_1m, aL2, La2, mL2, cL2, kL2, aL3, La3, mL3, cL3, kL3, aL4, La4, mL4, cL4, kL4, aL5, La5, mL5, cL5, kL5, aL6, La6, mL6, cL6, kL6, aL7, La7, mL7, cL7, kL7, aL8, La8, mL8, cL8, kL8, aL9, La9, mL9, cL9, kL9, aL10, La10, mL10, cL10, kL10, aL11, La11, mL11, cL11, kL11, aL12, La12, mL12, cL12, kL12, aL13, La13, mL13, cL13, kL13, aL14, La14, mL14, cL14, kL14, aL15, La15, mL15, cL15, kL15, aL16, La16, mL16, cL16, kL16, aL20, La20, mL20, cL20, kL20, aL21, La21, mL21, cL21, kL21, aL24, La24, mL24, cL24, kL24, aL27, La27, mL27, cL27, kL27, aL30, La30, mL30, cL30, kL30, aL31, La31, mL31, cL31, kL31, aL32, La32, mL32, cL32, kL32, aL48, La48, mL48, cL48, kL48, aL60, La60, mL60, cL60, kL60, aL83, La83, mL83, cL83, kL83, aL97, La97, mL97, cL97, kL97, aL99, La99, mL99, cL99, kL99, aL120, La120, mL120, cL120, kL120, aL122, La122, mL122, cL122, kL122, aL124, La124, mL124, cL124, kL124, aL163, La163, mL163, cL163, kL163, aL177, La177, mL177, cL177, kL177, aL200, La200, mL200, cL200, kL200, aL205, La205, mL205, cL205, kL205, aL255, La255, mL255, cL255, kL255, aL331, La331, mL331, cL331, kL331, aL480, La480, mL480, cL480, kL480, aL999, La999, mL999, cL999, kL999, aL1171, La1171, mL1171, cL1171, kL1171, aL1200, La1200, mL1200, cL1200, kL1200, aL2000, La2000, mL2000, cL2000, kL2000, aL4771, La4771, mL4771, cL4771, kL4771, aL6211, La6211, mL6211, cL6211, kL6211, aL6214, La6214, mL6214, cL6214, kL6214, aL6391, La6391, mL6391, cL6391, kL6391, aL8000, La8000, mL8000, cL8000, kL8000, aL9999, La9999, mL9999, cL9999, kL9999, aL20000, La20000, mL20000, cL20000, kL20000, aL96000, La96000, mL96000, cL96000, kL96000, nI_leI, nI_ltI, ne_bI, eq_bI, if_pos, if_neg, f_X0_hash_L6, j5]
  · have bt := e_byteAt F (S := S) (r := j + 1) j3 j5 (by omega) (by omega) hk
    rw [j6 k hk] at bt
    simp (disch := first | assumption | omega) only [ob_some, lt_eq, sm_l, sm_r, os_s, os_n, cki_nI, cki_0, cki_1, ck_bI, nI_clamp, cl0, cl1, nI_add, nI_mul, nI_1, nI_a0, nI_0a, nI_1a, nI_1m, aL2, La2, mL2, cL2, kL2, aL3, La3, mL3, cL3, kL3, aL4, La4, mL4, cL4, kL4, aL5, La5, mL5, cL5, kL5, aL6, La6, mL6, cL6, kL6, aL7, La7, mL7, cL7, kL7, aL8, La8, mL8, cL8, kL8, aL9, La9, mL9, cL9, kL9, aL10, La10, mL10, cL10, kL10, aL11, La11, mL11, cL11, kL11, aL12, La12, mL12, cL12, kL12, aL13, La13, mL13, cL13, kL13, aL14, La14, mL14, cL14, kL14, aL15, La15, mL15, cL15, kL15, aL16, La16, mL16, cL16, kL16, aL20, La20, mL20, cL20, kL20, aL21, La21, mL21, cL21, kL21, aL24, La24, mL24, cL24, kL24, aL27, La27, mL27, cL27, kL27, aL30, La30, mL30, cL30, kL30, aL31, La31, mL31, cL31, kL31, aL32, La32, mL32, cL32, kL32, aL48, La48, mL48, cL48, kL48, aL60, La60, mL60, cL60, kL60, aL83, La83, mL83, cL83, kL83, aL97, La97, mL97, cL97, kL97, aL99, La99, mL99, cL99, kL99, aL120, La120, mL120, cL120, kL120, aL122, La122, mL122, cL122, kL122, aL124, La124, mL124, cL124, kL124, aL163, La163, mL163, cL163, kL163, aL177, La177, mL177, cL177, kL177, aL200, La200, mL200, cL200, kL200, aL205, La205, mL205, cL205, kL205, aL255, La255, mL255, cL255, kL255, aL331, La331, mL331, cL331, kL331, aL480, La480, mL480, cL480, kL480, aL999, La999, mL999, cL999, kL999, aL1171, La1171, mL1171, cL1171, kL1171, aL1200, La1200, mL1200, cL1200, kL1200, aL2000, La2000, mL2000, cL2000, kL2000, aL4771, La4771, mL4771, cL4771, kL4771, aL6211, La6211, mL6211, cL6211, kL6211, aL6214, La6214, mL6214, cL6214, kL6214, aL6391, La6391, mL6391, cL6391, kL6391, aL8000, La8000, mL8000, cL8000, kL8000, aL9999, La9999, mL9999, cL9999, kL9999, aL20000, La20000, mL20000, cL20000, kL20000, aL96000, La96000, mL96000, cL96000, kL96000, nI_leI, nI_ltI, ne_bI, eq_bI, if_pos, if_neg, f_X0_hash_L6, j5, bt]
theorem a_usage (hx : FxF S) (cl : Cl S n 27 N B) {u : Nat} (hu : u < kN N 4) (hF : 1000 ≤ F) : f_X10_usage F S 0 (nI u) = some (.inr (usN N u), S) := by
  unfold f_X10_usage
  rw [a_needUser hx cl hu, ob_some]
  simp only [lt_eq, sm_r]
  rw [hx.r905_0, ob_some, e_usage cl.c0 hx.sp27 hu hF, ob_some]
theorem a_logical (hx : FxF S) (cl : Cl S n 27 N B) (hF : 1000 ≤ F) : f_X10_logicalBytes F S 0 = some (runN (fun u a => a + usN N u) (kN N 4) 0 0, S) := by
  obtain ⟨r, r1, r2, r3⟩ := e_users cl.c0
  have b4 := cl.c0.wb.n4.2
  unfold f_X10_logicalBytes
  refine loopR0 (fun fu k a => f_X10_logicalBytes_L4 F fu S 0 a (nI k)) (kN N 4) _ (fun a => (a, S)) 0 (by omega) (fun fu a => ?_) (fun fu k a hk => ?_)
  · show f_X10_logicalBytes_L4 F (fu + 1) S 0 a (nI (kN N 4)) = _
    unfold f_X10_logicalBytes_L4
    rw [hx.r905_0, ob_some, r1, ob_some, r2, ob_some, r3, if_pos (nI_le (Nat.le_refl _) (by omega))]
  · show f_X10_logicalBytes_L4 F (fu + 1) S 0 a (nI k) = f_X10_logicalBytes_L4 F fu S 0 _ (nI (k + 1))
    conv => lhs; unfold f_X10_logicalBytes_L4
    rw [hx.r905_0, ob_some, r1, ob_some, r2, ob_some, r3, if_neg (nI_ge hk (by omega)), ob_some, e_usage cl.c0 hx.sp27 hk hF, ob_some]
    simp only [lt_eq]
    rw [nI_1]
theorem e_liveWord {p : Nat} (C : Cl0 S n p N B) (hs : SpF S p) {u c : Nat} {wl : Nat → Int32} (hu : u < kN N 4) (hc : 1 ≤ c) (hc2 : c ≤ 10) (hw : ∀ k, k < c → letB (wl k)) (hF : 1000 ≤ F) : f_X8_liveWithWord F S p (nI u) (lN (wv wl c)) = some (runN (fun m a => if ¬ stN N m u = 0 then a else pif (contB N B m wl c) (a + 1) a) (kN N 7) 0 0, S) := by
  have b7 := C.wb.n7.2
  have q1 := C.s705
  unfold f_X8_liveWithWord
  refine loopR0 (fun fu k a => f_X8_liveWithWord_L6 F fu S p (nI u) (lN (wv wl c)) a (nI k)) (kN N 7) _ (fun a => (a, S)) 0 (by omega) (fun fu a => ?_) (fun fu k a hk => ?_)
  · simp (disch := first | assumption | omega) only [ob_some, lt_eq, sm_l, sm_r, os_s, os_n, cki_nI, cki_0, cki_1, ck_bI, nI_clamp, cl0, cl1, nI_add, nI_mul, nI_1, nI_a0, nI_0a, nI_1a, nI_1m, aL2, La2, mL2, cL2, kL2, aL3, La3, mL3, cL3, kL3, aL4, La4, mL4, cL4, kL4, aL5, La5, mL5, cL5, kL5, aL6, La6, mL6, cL6, kL6, aL7, La7, mL7, cL7, kL7, aL8, La8, mL8, cL8, kL8, aL9, La9, mL9, cL9, kL9, aL10, La10, mL10, cL10, kL10, aL11, La11, mL11, cL11, kL11, aL12, La12, mL12, cL12, kL12, aL13, La13, mL13, cL13, kL13, aL14, La14, mL14, cL14, kL14, aL15, La15, mL15, cL15, kL15, aL16, La16, mL16, cL16, kL16, aL20, La20, mL20, cL20, kL20, aL21, La21, mL21, cL21, kL21, aL24, La24, mL24, cL24, kL24, aL27, La27, mL27, cL27, kL27, aL30, La30, mL30, cL30, kL30, aL31, La31, mL31, cL31, kL31, aL32, La32, mL32, cL32, kL32, aL48, La48, mL48, cL48, kL48, aL60, La60, mL60, cL60, kL60, aL83, La83, mL83, cL83, kL83, aL97, La97, mL97, cL97, kL97, aL99, La99, mL99, cL99, kL99, aL120, La120, mL120, cL120, kL120, aL122, La122, mL122, cL122, kL122, aL124, La124, mL124, cL124, kL124, aL163, La163, mL163, cL163, kL163, aL177, La177, mL177, cL177, kL177, aL200, La200, mL200, cL200, kL200, aL205, La205, mL205, cL205, kL205, aL255, La255, mL255, cL255, kL255, aL331, La331, mL331, cL331, kL331, aL480, La480, mL480, cL480, kL480, aL999, La999, mL999, cL999, kL999, aL1171, La1171, mL1171, cL1171, kL1171, aL1200, La1200, mL1200, cL1200, kL1200, aL2000, La2000, mL2000, cL2000, kL2000, aL4771, La4771, mL4771, cL4771, kL4771, aL6211, La6211, mL6211, cL6211, kL6211, aL6214, La6214, mL6214, cL6214, kL6214, aL6391, La6391, mL6391, cL6391, kL6391, aL8000, La8000, mL8000, cL8000, kL8000, aL9999, La9999, mL9999, cL9999, kL9999, aL20000, La20000, mL20000, cL20000, kL20000, aL96000, La96000, mL96000, cL96000, kL96000, nI_leI, nI_ltI, ne_bI, eq_bI, if_pos, if_neg, f_X8_liveWithWord_L6, q1]
  · simp (disch := first | assumption | omega) only [ob_some, lt_eq, sm_l, sm_r, os_s, os_n, cki_nI, cki_0, cki_1, ck_bI, nI_clamp, cl0, cl1, nI_add, nI_mul, nI_1, nI_a0, nI_0a, nI_1a, nI_1m, aL2, La2, mL2, cL2, kL2, aL3, La3, mL3, cL3, kL3, aL4, La4, mL4, cL4, kL4, aL5, La5, mL5, cL5, kL5, aL6, La6, mL6, cL6, kL6, aL7, La7, mL7, cL7, kL7, aL8, La8, mL8, cL8, kL8, aL9, La9, mL9, cL9, kL9, aL10, La10, mL10, cL10, kL10, aL11, La11, mL11, cL11, kL11, aL12, La12, mL12, cL12, kL12, aL13, La13, mL13, cL13, kL13, aL14, La14, mL14, cL14, kL14, aL15, La15, mL15, cL15, kL15, aL16, La16, mL16, cL16, kL16, aL20, La20, mL20, cL20, kL20, aL21, La21, mL21, cL21, kL21, aL24, La24, mL24, cL24, kL24, aL27, La27, mL27, cL27, kL27, aL30, La30, mL30, cL30, kL30, aL31, La31, mL31, cL31, kL31, aL32, La32, mL32, cL32, kL32, aL48, La48, mL48, cL48, kL48, aL60, La60, mL60, cL60, kL60, aL83, La83, mL83, cL83, kL83, aL97, La97, mL97, cL97, kL97, aL99, La99, mL99, cL99, kL99, aL120, La120, mL120, cL120, kL120, aL122, La122, mL122, cL122, kL122, aL124, La124, mL124, cL124, kL124, aL163, La163, mL163, cL163, kL163, aL177, La177, mL177, cL177, kL177, aL200, La200, mL200, cL200, kL200, aL205, La205, mL205, cL205, kL205, aL255, La255, mL255, cL255, kL255, aL331, La331, mL331, cL331, kL331, aL480, La480, mL480, cL480, kL480, aL999, La999, mL999, cL999, kL999, aL1171, La1171, mL1171, cL1171, kL1171, aL1200, La1200, mL1200, cL1200, kL1200, aL2000, La2000, mL2000, cL2000, kL2000, aL4771, La4771, mL4771, cL4771, kL4771, aL6211, La6211, mL6211, cL6211, kL6211, aL6214, La6214, mL6214, cL6214, kL6214, aL6391, La6391, mL6391, cL6391, kL6391, aL8000, La8000, mL8000, cL8000, kL8000, aL9999, La9999, mL9999, cL9999, kL9999, aL20000, La20000, mL20000, cL20000, kL20000, aL96000, La96000, mL96000, cL96000, kL96000, nI_leI, nI_ltI, ne_bI, eq_bI, f_X8_liveWithWord_L6, f_X8_liveWithWord_L38, q1, e_state C hs hk hu, e_hasWordM C hs hk hc hc2 hw hF, pI_e0]
    rw [if_neg (by omega)]
    by_cases z : stN N k u = 0
    · simp only [if_neg (show ¬ ¬ stN N k u = 0 from fun y => y z)]
      by_cases y : contB N B k wl c
      · rw [pif_t y, pif_t y]
      · rw [pif_f y, pif_f y]
    · simp only [if_pos z]
/-- the buffer holds a word: how many live messages of the user hold it -/
theorem a_matches (hx : FxF S) (cl : Cl S n 27 N B) {f : Nat → Int32} {K u : Nat} (hi : Inp S f K) (h1 : 1 ≤ K) (h2 : K ≤ 10) (hl : ∀ k, k < K → letB (f k)) (hu : u < kN N 4) (hF : 10000 ≤ F) : ∃ T, f_X10_matches F S 0 (nI u) = some (.inr (runN (fun m a => if ¬ stN N m u = 0 then a else pif (contB N B m f K) (a + 1) a) (kN N 7) 0 0), T) ∧ si T 1 20 = 0 ∧ (∀ k, ¬ k = 20 → SameO S T k) ∧ sr T = sr S ∧ ln T = ln S := by
  obtain ⟨g1, g2, g3⟩ := hi
  have ww := e_wholeW (F := F) (S := S) (j := 20) (r := 21) (K := K) (f := f) hx.r0_20 g2 (by rw [hx.l21]; omega) (by rw [hx.l21]; omega) g3 (by omega)
  have wb := wv_b h2 hl
  have wg := wv_ge (f := f) (c := K - 1) (fun k hk => hl k (by omega))
  rw [show K - 1 + 1 = K by omega] at wg
  have p27 : 0 < 27 ^ (K - 1) := Nat.pow_pos (by omega)
  have w0 : ¬ lN (wv f K) = 0 := by
    rw [show (0 : Int64) = lN 0 from rfl, lN_inj (by omega) (by omega)]
    omega
  have we : whW f K = lN (wv f K) := by
    unfold whW
    rw [pif_t ⟨hl, h2⟩]
  obtain ⟨T, t1, t2, t3, t4, t5⟩ := e_cutA (F := F) g2 g1
  have hx2 : FxF T := hx.agr (fun g i _ _ => by rw [t4]) (fun i _ => by rw [t5]) (t3 69 (by omega)).2.2.2.2.1
  have cl2 : Cl T n 27 N B := cl.agr (Nat.le_refl _) (fun i hi => t3 i (by omega))
  refine ⟨T, ?_, t2, t3, t4, t5⟩
  unfold f_X10_matches
  rw [a_needUser hx cl hu, ob_some]
  simp only [lt_eq, sm_r]
  rw [hx.r900_0, ob_some, ww, ob_some, we]
  simp only []
  rw [if_pos (show ¬ lg_cmp (lN (wv f K)) 0 = 0 from fun y => w0 ((lg_cmp_eq _ _).mp y)), hx.r900_0, ob_some, t1, ob_some, hx2.r905_0, ob_some, e_liveWord cl2.c0 hx2.sp27 hu h1 h2 hl (by omega), ob_some]
end As
/-! the row of readers -/
def G6 (S T : St) : Prop := (∀ f i, sr T f i = sr S f i) ∧ (∀ f i, si T f i = si S f i) ∧ (∀ i, ¬ i = 196 → ai T i = ai S i) ∧ al T = al S ∧ ar T = ar S ∧ ln T = ln S
theorem G6.rf (S : St) : G6 S S := ⟨fun _ _ => rfl, fun _ _ => rfl, fun _ _ => rfl, rfl, rfl, rfl⟩
theorem G6.tr {S T U : St} (h : G6 S T) (g : G6 T U) : G6 S U := ⟨fun f i => (g.1 f i).trans (h.1 f i), fun f i => (g.2.1 f i).trans (h.2.1 f i), fun i q => (g.2.2.1 i q).trans (h.2.2.1 i q), g.2.2.2.1.trans h.2.2.2.1, g.2.2.2.2.1.trans h.2.2.2.2.1, g.2.2.2.2.2.trans h.2.2.2.2.2⟩
theorem G6.so {S T : St} (h : G6 S T) {i : Nat} (hi : ¬ i = 196) : SameO S T i := ⟨fun f => h.2.1 f i, fun f => h.1 f i, h.2.2.1 i hi, by rw [h.2.2.2.1], by rw [h.2.2.2.2.1], by rw [h.2.2.2.2.2]⟩
theorem G6.uai {S : St} (k : Nat) (v : Int32) : G6 S (uai S 196 k v) := ⟨fun _ _ => rfl, fun _ _ => rfl, fun i hi => (SameO.uai (S := S) (i := 196) (k := k) v hi).row, rfl, rfl, rfl⟩
theorem ai_uaiS (S : St) (i k : Nat) (v : Int32) : ai (uai S i k v) i = upd (ai S i) k v := by
  funext q
  rw [ai_uai]
  by_cases z : q = k
  · rw [if_pos ⟨rfl, z⟩, z, upd_e]
  · rw [if_neg (fun y => z y.2), upd_n z]
theorem G6.fx {S T : St} (h : G6 S T) (hx : FxF S) : FxF T := hx.agr (fun g i _ _ => h.1 g i) (fun i _ => by rw [h.2.2.2.2.2]) (by rw [h.2.2.2.2.1])
section Ga6
variable {F : Nat} {S : St} {n : Nat} {N B : Nat → Int32}
theorem e_fill6 (hx : FxF S) (hF : 1000 ≤ F) : ∃ T, f_J7_fill_53178 F S 196 0 = some T ∧ G6 S T ∧ ∀ q, q < 480 → ai T 196 q = 0 := by
  have l := hx.l196
  have loop : ∀ d k fu T, k + d = 480 → d < fu → G6 S T → (∀ c, c < k → ai T 196 c = 0) → ∃ T', f_J7_fill_53178_L5 F fu T 196 0 (nI k) (nI 480) = some T' ∧ G6 S T' ∧ ∀ q, q < 480 → ai T' 196 q = 0 := by
    intro d
    induction d with
    | zero =>
      intro k fu T hk hfu m1 m2
      obtain ⟨fu, rfl⟩ : ∃ f', fu = f' + 1 := ⟨fu - 1, by omega⟩
      have : k = 480 := by omega
      subst this
      refine ⟨T, ?_, m1, m2⟩
      unfold f_J7_fill_53178_L5
      rw [if_pos (nI_le (Nat.le_refl _) (by omega))]
    | succ d ih =>
      intro k fu T hk hfu m1 m2
      obtain ⟨fu, rfl⟩ : ∃ f', fu = f' + 1 := ⟨fu - 1, by omega⟩
      obtain ⟨T', t1, t2⟩ := ih (k + 1) fu (uai T 196 k 0) (by omega) (by omega) (m1.tr (G6.uai _ _)) (fun c hc => by
        rw [ai_uaiS]
        by_cases z : c = k
        · rw [z, upd_e]
        · rw [upd_n z]; exact m2 c (by omega))
      refine ⟨T', ?_, t2⟩
      rw [← t1]
      conv => lhs; unfold f_J7_fill_53178_L5
      rw [if_neg (nI_ge (by omega) (by omega)), m1.2.2.2.2.2, l, cki_nI (by omega) (by omega), nI_clamp (by omega), lt_eq, lt_eq, nI_1]
  unfold f_J7_fill_53178
  rw [l]
  simp only [lt_eq]
  exact loop 480 0 F S (by omega) (by omega) (G6.rf S) (fun c hc => by omega)
theorem e_gather6 (hx : FxF S) (cl : Cl0 S n 27 N B) (hF : 1000 ≤ F) : ∃ T, f_X8_gatherReaders F S 27 196 = some T ∧ G6 S T ∧ RowB N (ai T 196) (fun u q => rdP N u q) := by
  have w := cl.wb
  have b4 := w.n4.2
  have b7 := w.n7.2
  have b8 := w.n8.2
  have c0 : ∀ T, G6 S T → Cl0 T n 27 N B := fun T m => cl.agr (Nat.le_refl _) (fun i hi => m.so (by omega))
  -- the parts of one message
  have row : ∀ (m : Nat) (k7 : St → Nat → Nat → Int32 → Option St), m < kN N 7 → ∀ (j bm : Nat), bm < 1024 → (∀ u, u < 10 → (bm.testBit u = true ↔ u < kN N 4 ∧ stN N m u = 0)) → j + 1 ≠ 196 → ln S (j + 1) = manyN N m → (∀ i, i < manyN N m → ai S (j + 1) i = nI (partN N m i)) →
      ∀ d i fu T, i + d = manyN N m → d < fu → G6 S T → RowB N (ai T 196) (vsP N m i) → ∃ T', f_X8_gatherReaders_L41 F k7 fu T 27 196 (nI m) (nI bm) (j + 1) (nI (manyN N m)) (nI i) = k7 T' 27 196 (nI (m + 1)) ∧ G6 S T' ∧ RowB N (ai T' 196) (vsP N (m + 1) 0) := by
    intro m k7 hm j bm bm1 bm2 hj hl hp d
    have m4 := (w.wM m hm).2.2.2.1.2
    have mm : manyN N m ≤ 4 := m4
    induction d with
    | zero =>
      intro i fu T hi hfu m1 m2
      obtain ⟨fu, rfl⟩ : ∃ f', fu = f' + 1 := ⟨fu - 1, by omega⟩
      have : i = manyN N m := by omega
      subst this
      refine ⟨T, ?_, m1, m2.c (fun u q => ?_)⟩
      · unfold f_X8_gatherReaders_L41
        rw [if_pos (nI_le (Nat.le_refl _) (by omega)), lt_eq, nI_1]
      · unfold vsP
        constructor
        · rintro ⟨m', y1, y2 | ⟨y2, y3⟩⟩
          · exact ⟨m', y1, Or.inl ⟨by omega, y2.2⟩⟩
          · exact ⟨m', y1, Or.inl ⟨by omega, by omega, by rw [y2]; exact y3⟩⟩
        · rintro ⟨m', y1, y2 | ⟨y2, k, y3, y4⟩⟩
          · by_cases z : m' = m
            · exact ⟨m', y1, Or.inr ⟨z, by rw [← z]; exact y2.2.2⟩⟩
            · exact ⟨m', y1, Or.inl ⟨by omega, y2.2⟩⟩
          · omega
    | succ d ih =>
      intro i fu T hi hfu m1 m2
      obtain ⟨fu, rfl⟩ : ∃ f', fu = f' + 1 := ⟨fu - 1, by omega⟩
      have l196 : ln T 196 = 480 := by rw [m1.2.2.2.2.2]; exact hx.l196
      obtain ⟨p, hpp⟩ : ∃ p, p = partN N m i := ⟨_, rfl⟩
      have p8 : p < kN N 8 := by rw [hpp]; exact ((w.wM m hm).2.2.2.2.2 i (by omega)).2
      have e1 : ai T (j + 1) i = nI p := by rw [m1.2.2.1 (j + 1) hj, hp i (by omega), hpp]
      obtain ⟨b, b1, b2, b3⟩ := m2 p (by omega)
      obtain ⟨T', t1, t2⟩ := ih (i + 1) fu (uai T 196 p (nI (b ||| bm))) (by omega) (by omega) (m1.tr (G6.uai _ _)) (fun q hq => by
        rw [ai_uaiS]
        by_cases z : q = p
        · rw [z, upd_e]
          refine ⟨b ||| bm, Nat.or_lt_two_pow (n := 10) b1 bm1, rfl, fun u hu => ?_⟩
          rw [Nat.testBit_or, Bool.or_eq_true, b3 u hu, bm2 u hu]
          constructor
          · rintro (⟨y1, m', y2, y3 | ⟨y3, k, y4, y5⟩⟩ | y)
            · exact ⟨y1, m', y2, Or.inl y3⟩
            · exact ⟨y1, m', y2, Or.inr ⟨y3, k, by omega, y5⟩⟩
            · exact ⟨y.1, m, y.2, Or.inr ⟨rfl, i, by omega, hpp.symm⟩⟩
          · rintro ⟨y1, m', y2, y3 | ⟨y3, k, y4, y5⟩⟩
            · exact Or.inl ⟨y1, m', y2, Or.inl y3⟩
            · exact Or.inr ⟨y1, by rw [← y3]; exact y2⟩
        · rw [upd_n z]
          obtain ⟨b', x1, x2, x3⟩ := m2 q hq
          refine ⟨b', x1, x2, fun u hu => (x3 u hu).trans ⟨?_, ?_⟩⟩
          · rintro ⟨y1, m', y2, y3 | ⟨y3, k, y4, y5⟩⟩
            · exact ⟨y1, m', y2, Or.inl y3⟩
            · exact ⟨y1, m', y2, Or.inr ⟨y3, k, by omega, y5⟩⟩
          · rintro ⟨y1, m', y2, y3 | ⟨y3, k, y4, y5⟩⟩
            · exact ⟨y1, m', y2, Or.inl y3⟩
            · refine ⟨y1, m', y2, Or.inr ⟨y3, k, ?_, y5⟩⟩
              by_cases e : k = i
              · rw [e, ← hpp] at y5; exact absurd y5.symm z
              · omega)
      refine ⟨T', ?_, t2⟩
      rw [← t1]
      conv => lhs; unfold f_X8_gatherReaders_L41
      rw [if_neg (nI_ge (by omega) (by omega)), m1.2.2.2.2.2, hl, cki_nI (by omega) (by omega), nI_clamp (by omega), e1, lt_eq, e_at (by omega) (by omega), ob_some, b2]
      simp only [lt_eq]
      rw [nI_or, e_put _ (by omega) (by omega), ob_some, nI_1]
  have loop : ∀ d m fu T, m + d = kN N 7 → d < fu → G6 S T → RowB N (ai T 196) (vsP N m 0) → ∃ T', f_X8_gatherReaders_L7 F fu T 27 196 (nI m) = some T' ∧ G6 S T' ∧ RowB N (ai T' 196) (vsP N (kN N 7) 0) := by
    intro d
    induction d with
    | zero =>
      intro m fu T hk hfu m1 m2
      obtain ⟨fu, rfl⟩ : ∃ f', fu = f' + 1 := ⟨fu - 1, by omega⟩
      have : m = kN N 7 := by omega
      subst this
      refine ⟨T, ?_, m1, m2⟩
      unfold f_X8_gatherReaders_L7
      rw [(c0 T m1).s705, if_pos (nI_le (Nat.le_refl _) (by omega))]
    | succ d ih =>
      intro m fu T hk hfu m1 m2
      obtain ⟨fu, rfl⟩ : ∃ f', fu = f' + 1 := ⟨fu - 1, by omega⟩
      have hm : m < kN N 7 := by omega
      have C := c0 T m1
      have hxT := m1.fx hx
      obtain ⟨bm, bm1, bm2, bm3⟩ := users_bits w hm
      obtain ⟨j', j1, j2⟩ := e_msgAt (F := F) C hxT.sp27 hm
      obtain ⟨j, g1, g2, g3, g4, g5, g6, g7, g8, -⟩ := cl.cm m hm
      have ej : j' = j := by
        have : ar T (27 + 2) m = some j := by rw [m1.2.2.2.2.1]; exact g1
        rw [this] at j1
        exact (Option.some.inj j1).symm
      subst ej
      have g2' := g2.1
      obtain ⟨T1, t1, t2, t3⟩ := row m (fun a0 a1 a2 a3 => f_X8_gatherReaders_L7 F fu a0 a1 a2 a3) hm j' bm bm1 bm3 (by omega) g4 (fun i hi => by rw [g8 i hi]; exact ((w.wM m hm).2.2.2.2.2 i hi).1.1) (manyN N m) 0 F T (by omega) (by have := (w.wM m hm).2.2.2.1.2; unfold manyN; omega) m1 m2
      obtain ⟨T', r1, r2⟩ := ih (m + 1) fu T1 (by omega) (by omega) t2 t3
      refine ⟨T', ?_, r2⟩
      rw [← r1, ← t1]
      conv => lhs; unfold f_X8_gatherReaders_L7
      rw [C.s705, if_neg (nI_ge (by omega) (by omega)), e_usersIn C hxT.sp27 hm 0 0 hF, ob_some, bm2]
      simp only [lt_eq]
      rw [j2, ob_some]
      simp only [lt_eq]
      rw [ob_some, m1.1, g3, ob_some, m1.2.2.2.2.2, g4]
      rfl
  obtain ⟨T0, f1, f2, f3⟩ := e_fill6 (F := F) hx hF
  obtain ⟨T', r1, r2, r3⟩ := loop (kN N 7) 0 F T0 (by omega) (by omega) f2 (fun q hq => ⟨0, by omega, f3 q hq, fun u _ => by
    rw [Nat.zero_testBit]
    exact ⟨fun y => absurd y (by decide), fun ⟨_, m', _, y⟩ => by omega⟩⟩)
  refine ⟨T', ?_, r2, r3.c (fun u q => ?_)⟩
  · unfold f_X8_gatherReaders
    rw [f1, ob_some]
    exact r1
  · constructor
    · rintro ⟨m', y1, y2 | ⟨y2, k, y3, -⟩⟩
      · exact ⟨m', y2.1, y1, y2.2.2⟩
      · omega
    · rintro ⟨m', y1, y2, y3⟩
      exact ⟨m', y2, Or.inl ⟨y1, y1, y3⟩⟩
theorem a_common (hx : FxF S) (cl : Cl S n 27 N B) {u v : Nat} (hu : u < kN N 4) (hv : v < kN N 4) (hF : 1000 ≤ F) : ∃ T, f_X10_commonBytes F S 0 (nI u) (nI v) = some (.inr (cmN N u v (kN N 8)), T) ∧ G6 S T := by
  obtain ⟨T, t1, t2, t3⟩ := e_gather6 (F := F) hx cl.c0 hF
  have C2 : Cl0 T n 27 N B := cl.c0.agr (Nat.le_refl _) (fun i hi => t2.so (by omega))
  refine ⟨T, ?_, t2⟩
  unfold f_X10_commonBytes
  rw [a_needUser hx cl hu, ob_some]
  simp only [lt_eq, sm_r]
  rw [a_needUser hx cl hv, ob_some]
  simp only [sm_r]
  rw [hx.r905_0, ob_some, hx.r910_0, ob_some, t1, ob_some]
  exact e_common (t2.fx hx) C2 t3 hu hv hF
end Ga6
