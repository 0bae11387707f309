/-! the relation in pieces; what a call reads -/
def Cl0 (S : St) (n p : Nat) (N B : Nat → Int32) : Prop :=
  WF N B ∧ (∃ r, sr S 700 p = some r ∧ (r = 1 ∨ dyn n r 19) ∧ CR S r N) ∧ (si S 701 p = N 2 ∧ si S 702 p = N 10 ∧ si S 705 p = N 7) ∧
  (∃ act : Nat, si S 703 p = nI act ∧ act < 64 ∧ ∀ h, h < 6 → (act.testBit h = true ↔ h < kN N 6 ∧ N (208 + 21 * h) = 1)) ∧ (∀ u, u < kN N 4 → ai S (p + 1) u = N (84 + 8 * u)) ∧
  CM S n p N B ∧ CF S p N ∧ CP S n p N B
theorem Cl.c0 {S : St} {n p : Nat} {N B : Nat → Int32} (h : Cl S n p N B) : Cl0 S n p N B := ⟨h.1, h.2.1, h.2.2.1, h.2.2.2.1, h.2.2.2.2.1, h.2.2.2.2.2.1, h.2.2.2.2.2.2.1, h.2.2.2.2.2.2.2.1⟩
theorem Cl.cj {S : St} {n p : Nat} {N B : Nat → Int32} (h : Cl S n p N B) : CJ S p N := h.2.2.2.2.2.2.2.2.1
theorem Cl.dy {S : St} {n p : Nat} {N B : Nat → Int32} (h : Cl S n p N B) : p = 48 ∨ kN N 2 ≤ 20000 := h.2.2.2.2.2.2.2.2.2
theorem Cl.mk' {S : St} {n p : Nat} {N B : Nat → Int32} (h : Cl0 S n p N B) (hj : CJ S p N) (hd : p = 48 ∨ kN N 2 ≤ 20000) : Cl S n p N B := ⟨h.1, h.2.1, h.2.2.1, h.2.2.2.1, h.2.2.2.2.1, h.2.2.2.2.2.1, h.2.2.2.2.2.2.1, h.2.2.2.2.2.2.2, hj, hd⟩
/-- bounds alone -/
def wC (N : Nat → Int32) : Prop := ∀ c, c < kN N 3 → (N (11 + 9 * c) = -1 ∨ (isCnt N (11 + 9 * c) 999 ∧ 1 ≤ kN N (11 + 9 * c))) ∧ isCnt N (12 + 9 * c) 99 ∧ (N (13 + 9 * c) = -1 ∨ (isCnt N (13 + 9 * c) 8 ∧ kN N (13 + 9 * c) < c))
def wU (N : Nat → Int32) : Prop := ∀ u, u < kN N 4 → isCnt N (83 + 8 * u) 8 ∧ kN N (83 + 8 * u) < kN N 3 ∧ isCnt N (84 + 8 * u) 99999 ∧ 1 ≤ kN N (84 + 8 * u)
def wG (N : Nat → Int32) : Prop := ∀ g, g < kN N 5 → isCnt N (163 + 7 * g) 1023 ∧ 1 ≤ kN N (163 + 7 * g)
def wH (N : Nat → Int32) : Prop := ∀ h, h < kN N 6 → isCnt N (205 + 21 * h) 10 ∧ kN N (205 + 21 * h) < kN N 4 ∧ isCnt N (206 + 21 * h) 9999 ∧ isCnt N (207 + 21 * h) 20000 ∧ (N (208 + 21 * h) = 0 ∨ N (208 + 21 * h) = 1) ∧ isCnt N (209 + 21 * h) 10 ∧ ∀ k, k < kN N (209 + 21 * h) → letB (N (210 + 21 * h + k))
def wM (N : Nat → Int32) : Prop := ∀ m, m < kN N 7 → isCnt N (331 + 7 * m) 10 ∧ isCnt N (332 + 7 * m) 20000 ∧ kN N (332 + 7 * m) ≤ kN N 2 ∧ isCnt N (333 + 7 * m) 4 ∧ 1 ≤ manyN N m ∧ ∀ i, i < manyN N m → isCnt N (334 + 7 * m + i) 480 ∧ partN N m i < kN N 8
def wR (N : Nat → Int32) : Prop := ∀ m u, m < kN N 7 → u < 10 → (stN N m u = -1 ∨ stN N m u = 0 ∨ stN N m u = 1 ∨ stN N m u = 2 ∨ stN N m u = 3) ∧ (kN N 4 ≤ u → stN N m u = -1) ∧ isCnt N (1173 + 3 * (10 * m + u)) 22000 ∧ kN N (1173 + 3 * (10 * m + u)) ≤ kN N 2 ∧ (u < kN N 4 → isCnt N (1172 + 3 * (10 * m + u)) 8 ∧ kN N (1172 + 3 * (10 * m + u)) < kN N 3)
def wP (N B : Nat → Int32) : Prop := ∀ p, p < kN N 8 → isCnt N (4771 + 3 * p) 200 ∧ 1 ≤ kN N (4771 + 3 * p) ∧ (isN N p = 0 ∨ isN N p = 1) ∧ (deN N p = -1 ∨ (isCnt N (4773 + 3 * p) 22000 ∧ kN N (4773 + 3 * p) ≤ kN N 2)) ∧ ∀ k, k < kN N (4771 + 3 * p) → (B (200 * p + k)).toInt8.toInt32 = B (200 * p + k)
def WB (N B : Nat → Int32) : Prop :=
  (isCnt N 0 30 ∧ isCnt N 1 30 ∧ 1 ≤ kN N 1 ∧ isCnt N 2 22000) ∧ (isCnt N 3 8 ∧ isCnt N 4 10 ∧ isCnt N 5 6 ∧ isCnt N 6 6 ∧ isCnt N 7 120 ∧ isCnt N 8 480 ∧ isCnt N 9 60) ∧ wC N ∧ wU N ∧ wG N ∧ wH N ∧ wM N ∧ wR N ∧ wP N B
section WFs
variable {N B : Nat → Int32}
theorem WF.wC (h : WF N B) : wC N := h.2.2.1
theorem WF.wU (h : WF N B) : wU N := h.2.2.2.1
theorem WF.wG (h : WF N B) : wG N := h.2.2.2.2.1
theorem WF.wH (h : WF N B) : wH N := h.2.2.2.2.2.1
theorem WF.wM (h : WF N B) : wM N := h.2.2.2.2.2.2.1
theorem WF.wR (h : WF N B) : wR N := h.2.2.2.2.2.2.2.1
theorem WF.wP (h : WF N B) : wP N B := fun p hp => ⟨(h.2.2.2.2.2.2.2.2 p hp).1, (h.2.2.2.2.2.2.2.2 p hp).2.1, (h.2.2.2.2.2.2.2.2 p hp).2.2.1, (h.2.2.2.2.2.2.2.2 p hp).2.2.2.1, (h.2.2.2.2.2.2.2.2 p hp).2.2.2.2.2.2.2⟩
theorem WF.link (h : WF N B) {p : Nat} (hp : p < kN N 8) : deN N p = -1 ↔ ∃ m, m < kN N 7 ∧ hasN N m p ∧ keptN N m := (h.2.2.2.2.2.2.2.2 p hp).2.2.2.2.1
theorem WF.isd (h : WF N B) {p : Nat} (hp : p < kN N 8) : deN N p = -1 → isN N p = 1 := (h.2.2.2.2.2.2.2.2 p hp).2.2.2.2.2.1
theorem WF.inm (h : WF N B) {p : Nat} (hp : p < kN N 8) : ∃ m, m < kN N 7 ∧ hasN N m p := (h.2.2.2.2.2.2.2.2 p hp).2.2.2.2.2.2.1
theorem WF.wb (h : WF N B) : WB N B := ⟨h.1, ⟨h.2.1.1, h.2.1.2.1, h.2.1.2.2.1, h.2.1.2.2.2.1, h.2.1.2.2.2.2.1, h.2.1.2.2.2.2.2.1, h.2.1.2.2.2.2.2.2.1⟩, h.wC, h.wU, h.wG, h.wH, h.wM, h.wR, h.wP⟩
theorem WB.n0 (h : WB N B) : isCnt N 0 30 := h.1.1
theorem WB.n1 (h : WB N B) : isCnt N 1 30 := h.1.2.1
theorem WB.n1p (h : WB N B) : 1 ≤ kN N 1 := h.1.2.2.1
theorem WB.n2 (h : WB N B) : isCnt N 2 22000 := h.1.2.2.2
theorem WB.n3 (h : WB N B) : isCnt N 3 8 := h.2.1.1
theorem WB.n4 (h : WB N B) : isCnt N 4 10 := h.2.1.2.1
theorem WB.n5 (h : WB N B) : isCnt N 5 6 := h.2.1.2.2.1
theorem WB.n6 (h : WB N B) : isCnt N 6 6 := h.2.1.2.2.2.1
theorem WB.n7 (h : WB N B) : isCnt N 7 120 := h.2.1.2.2.2.2.1
theorem WB.n8 (h : WB N B) : isCnt N 8 480 := h.2.1.2.2.2.2.2.1
theorem WB.n9 (h : WB N B) : isCnt N 9 60 := h.2.1.2.2.2.2.2.2
theorem WB.wC (h : WB N B) : wC N := h.2.2.1
theorem WB.wU (h : WB N B) : wU N := h.2.2.2.1
theorem WB.wG (h : WB N B) : wG N := h.2.2.2.2.1
theorem WB.wH (h : WB N B) : wH N := h.2.2.2.2.2.1
theorem WB.wM (h : WB N B) : wM N := h.2.2.2.2.2.2.1
theorem WB.wR (h : WB N B) : wR N := h.2.2.2.2.2.2.2.1
theorem WB.wP (h : WB N B) : wP N B := h.2.2.2.2.2.2.2.2
end WFs
/-- a reference that there is -/
abbrev isR (N : Nat → Int32) (x y : Int32) : Prop := (0 ≤ x ∧ x < N 7) ∧ (0 ≤ y ∧ y < N 4) ∧ ¬ stN N x.toNatClampNeg y.toNatClampNeg = -1
theorem isR_of {N B : Nat → Int32} (w : WB N B) {x y : Int32} (h : isR N x y) : ∃ m u, m < kN N 7 ∧ u < kN N 4 ∧ x = nI m ∧ y = nI u ∧ ¬ stN N m u = -1 := by
  obtain ⟨h1, h2, h3⟩ := h
  have b7 := w.n7.2
  have b4 := w.n4.2
  rw [w.n7.1] at h1
  rw [w.n4.1] at h2
  obtain ⟨m, hm, rfl⟩ := ix (by omega) h1
  obtain ⟨u, hu, rfl⟩ := ix (by omega) h2
  rw [nI_clamp (by omega), nI_clamp (by omega)] at h3
  exact ⟨m, u, hm, hu, rfl, rfl, h3⟩
section CRd
variable {F : Nat} {S : St} {n p : Nat} {N B : Nat → Int32}
theorem Cl0.wf (h : Cl0 S n p N B) : WF N B := h.1
theorem Cl0.wb (h : Cl0 S n p N B) : WB N B := h.1.wb
theorem Cl0.ru (h : Cl0 S n p N B) : ∃ r, sr S 700 p = some r ∧ (r = 1 ∨ dyn n r 19) ∧ CR S r N := h.2.1
theorem Cl0.s701 (h : Cl0 S n p N B) : si S 701 p = N 2 := h.2.2.1.1
theorem Cl0.s702 (h : Cl0 S n p N B) : si S 702 p = N 10 := h.2.2.1.2.1
theorem Cl0.s705 (h : Cl0 S n p N B) : si S 705 p = nI (kN N 7) := h.2.2.1.2.2.trans h.wb.n7.1
theorem Cl0.ac (h : Cl0 S n p N B) : ∃ act : Nat, si S 703 p = nI act ∧ act < 64 ∧ ∀ h, h < 6 → (act.testBit h = true ↔ h < kN N 6 ∧ N (208 + 21 * h) = 1) := h.2.2.2.1
theorem Cl0.qu (h : Cl0 S n p N B) : ∀ u, u < kN N 4 → ai S (p + 1) u = N (84 + 8 * u) := h.2.2.2.2.1
theorem Cl0.cm (h : Cl0 S n p N B) : CM S n p N B := h.2.2.2.2.2.1
theorem Cl0.cf (h : Cl0 S n p N B) : CF S p N := h.2.2.2.2.2.2.1
theorem Cl0.cp (h : Cl0 S n p N B) : CP S n p N B := h.2.2.2.2.2.2.2
theorem e_atN {p k : Nat} (hk : ¬ k < ln S p) (hl : ln S p < 2 ^ 31) (hk2 : k < 2 ^ 31) : f_X10_at F S p (nI k) = some (-1, S) := by
  unfold f_X10_at
  rw [if_neg (nI_pos hk2), if_pos (nI_le (by omega) hk2)]
theorem e_put {p k : Nat} (v : Int32) (hk : k < ln S p) (hl : ln S p < 2 ^ 31) : f_X10_put F S p (nI k) v = some (uai S p k v) := by
  unfold f_X10_put
  rw [if_neg (nI_pos (by omega)), if_neg (nI_ge hk hl), cki_nI hk hl, nI_clamp (by omega), lt_eq]
theorem e_stateX (C : Cl0 S n p N B) (hs : SpF S p) (x y : Int32) : f_X8_stateOf F S p x y = some (if (0 ≤ x ∧ x < N 7) ∧ (0 ≤ y ∧ y < N 4) then stN N x.toNatClampNeg y.toNatClampNeg else -1, S) := by
  obtain ⟨r, h1, h2, h3⟩ := C.ru
  have w := C.wb
  have b7 := w.n7.2
  have b4 := w.n4.2
  unfold f_X8_stateOf
  by_cases c1 : x < 0
  · rw [if_pos c1, if_neg (fun z => (le_nlt.mp z.1.1) c1)]
  rw [if_neg c1, C.s705]
  by_cases c2 : nI (kN N 7) ≤ x
  · rw [if_pos c2, if_neg (fun z => (le_nlt.mp (w.n7.1 ▸ c2)) z.1.2)]
  rw [if_neg c2, h1, ob_some, h3.1.r606_0, ob_some, e_has (k := kN N 4) (by rw [h3.2.1.2.2.2.1]; exact w.n4.1), ob_some, lt_eq, lt_eq, ne_bI, ← w.n4.1]
  by_cases c3 : 0 ≤ y ∧ y < N 4
  · have c1' : 0 ≤ x ∧ x < nI (kN N 7) := ⟨le_nlt.mpr c1, by rw [le_nlt] at c2; exact Classical.not_not.mp c2⟩
    rw [if_pos c3, if_pos ⟨by rw [w.n7.1]; exact c1', c3⟩]
    rw [w.n4.1] at c3
    obtain ⟨m, hm, rfl⟩ := ix (by omega) c1'
    obtain ⟨u, hu, rfl⟩ := ix (by omega) c3
    rw [show (10 : Int32) = nI 10 from rfl, nI_mul, nI_add, hs.r707_0, ob_some, e_at (by rw [hs.l3]; omega) (by rw [hs.l3]; omega), ob_some, lt_eq, lt_eq, nI_clamp (by omega), nI_clamp (by omega), Nat.mul_comm m 10, (C.cf m u hm (by omega)).1]
  · rw [if_neg c3, if_neg (fun z => c3 z.2)]
theorem e_state (C : Cl0 S n p N B) (hs : SpF S p) {m u : Nat} (hm : m < kN N 7) (hu : u < kN N 4) : f_X8_stateOf F S p (nI m) (nI u) = some (stN N m u, S) := by
  have b7 := C.wb.n7.2
  have b4 := C.wb.n4.2
  rw [e_stateX C hs, C.wb.n7.1, C.wb.n4.1, if_pos ⟨⟨nI_pos' (by omega), nI_lt hm (by omega)⟩, ⟨nI_pos' (by omega), nI_lt hu (by omega)⟩⟩, nI_clamp (by omega), nI_clamp (by omega)]
theorem e_msgAt (C : Cl0 S n p N B) (hs : SpF S p) {m : Nat} (hm : m < kN N 7) : ∃ j, ar S (p + 2) m = some j ∧ f_X8_messageAt F S p (nI m) = some (some j, S) := by
  obtain ⟨j, h1, -⟩ := C.cm m hm
  have b7 := C.wb.n7.2
  refine ⟨j, h1, ?_⟩
  unfold f_X8_messageAt f_X8_messageAt_L26
  rw [if_neg (nI_pos (by omega)), C.s705, if_neg (nI_ge hm (by omega)), hs.r706_0, ob_some, hs.l2, if_neg (nI_ge (by omega) (by omega)), if_neg (by decide), ob_some, hs.l2, cki_nI (by omega) (by omega), nI_clamp (by omega), h1, os_s]
  rfl
theorem e_retOf (C : Cl0 S n p N B) (hs : SpF S p) {m u : Nat} (hm : m < kN N 7) (hu : u < kN N 4) : f_X8_retentionOf F S p (nI m) (nI u) = some (clN N m u, S) := by
  have b7 := C.wb.n7.2
  have b4 := C.wb.n4.2
  unfold f_X8_retentionOf
  rw [show (10 : Int32) = nI 10 from rfl, nI_mul, nI_add, hs.r708_0, ob_some, e_at (by rw [hs.l4]; omega) (by rw [hs.l4]; omega), ob_some, lt_eq, lt_eq, Nat.mul_comm m 10, (C.cf m u hm (by omega)).2.2 hu]
theorem e_entOf (C : Cl0 S n p N B) (hs : SpF S p) {m u : Nat} (hm : m < kN N 7) (hu : u < 10) : f_X10_at F S (p + 5) (nI m * 10 + nI u) = some (enN N m u, S) := by
  have b7 := C.wb.n7.2
  rw [show (10 : Int32) = nI 10 from rfl, nI_mul, nI_add, e_at (by rw [hs.l5]; omega) (by rw [hs.l5]; omega), Nat.mul_comm m 10, (C.cf m u hm hu).2.1]
theorem clN_nI {N B : Nat → Int32} (w : WB N B) {m u : Nat} (hm : m < kN N 7) (hu : u < kN N 4) : ∃ c, c < kN N 3 ∧ clN N m u = nI c := by
  have b4 := w.n4.2
  have h := (w.wR m u hm (by omega)).2.2.2.2 hu
  exact ⟨_, h.2, h.1.1⟩
/-- users and their rules -/
theorem e_users (C : Cl0 S n p N B) : ∃ r, sr S 700 p = some r ∧ sr S 606 r = some (r + 6) ∧ si S 401 (r + 6) = nI (kN N 4) := by
  obtain ⟨r, h1, h2, h3⟩ := C.ru
  exact ⟨r, h1, h3.1.r606_0, h3.2.1.2.2.2.1.trans C.wb.n4.1⟩
theorem e_usersIn (C : Cl0 S n p N B) (hs : SpF S p) {m : Nat} (hm : m < kN N 7) (lo hi : Int32) (hF : 1000 ≤ F) : f_X8_usersIn F S p (nI m) lo hi = some (runN (fun u a => if stN N m u < lo then a else if hi < stN N m u then a else a ||| (1 <<< (nI u &&& 31))) (kN N 4) 0 0, S) := by
  obtain ⟨r, h1, h2, h3⟩ := e_users C
  have b4 := C.wb.n4.2
  unfold f_X8_usersIn
  refine loopR0 (fun fu k a => f_X8_usersIn_L6 F fu S p (nI m) lo hi a (nI k)) (kN N 4) _ (fun a => (a, S)) 0 (by omega) (fun fu a => ?_) (fun fu k a hk => ?_)
  · simp (disch := first | assumption | omega) only [ob_some, lt_eq, sm_l, sm_r, os_s, os_n, cki_nI, cki_0, cki_1, ck_bI, nI_clamp, cl0, cl1, nI_add, nI_mul, nI_1, nI_a0, nI_0a, nI_1a, nI_1m, aL2, La2, mL2, cL2, kL2, aL3, La3, mL3, cL3, kL3, aL4, La4, mL4, cL4, kL4, aL5, La5, mL5, cL5, kL5, aL6, La6, mL6, cL6, kL6, aL7, La7, mL7, cL7, kL7, aL8, La8, mL8, cL8, kL8, aL9, La9, mL9, cL9, kL9, aL10, La10, mL10, cL10, kL10, aL11, La11, mL11, cL11, kL11, aL12, La12, mL12, cL12, kL12, aL13, La13, mL13, cL13, kL13, aL14, La14, mL14, cL14, kL14, aL15, La15, mL15, cL15, kL15, aL16, La16, mL16, cL16, kL16, aL20, La20, mL20, cL20, kL20, aL21, La21, mL21, cL21, kL21, aL24, La24, mL24, cL24, kL24, aL27, La27, mL27, cL27, kL27, aL30, La30, mL30, cL30, kL30, aL31, La31, mL31, cL31, kL31, aL32, La32, mL32, cL32, kL32, aL48, La48, mL48, cL48, kL48, aL60, La60, mL60, cL60, kL60, aL83, La83, mL83, cL83, kL83, aL97, La97, mL97, cL97, kL97, aL99, La99, mL99, cL99, kL99, aL120, La120, mL120, cL120, kL120, aL122, La122, mL122, cL122, kL122, aL124, La124, mL124, cL124, kL124, aL163, La163, mL163, cL163, kL163, aL177, La177, mL177, cL177, kL177, aL200, La200, mL200, cL200, kL200, aL205, La205, mL205, cL205, kL205, aL255, La255, mL255, cL255, kL255, aL331, La331, mL331, cL331, kL331, aL480, La480, mL480, cL480, kL480, aL999, La999, mL999, cL999, kL999, aL1171, La1171, mL1171, cL1171, kL1171, aL1200, La1200, mL1200, cL1200, kL1200, aL2000, La2000, mL2000, cL2000, kL2000, aL4771, La4771, mL4771, cL4771, kL4771, aL6211, La6211, mL6211, cL6211, kL6211, aL6214, La6214, mL6214, cL6214, kL6214, aL6391, La6391, mL6391, cL6391, kL6391, aL8000, La8000, mL8000, cL8000, kL8000, aL9999, La9999, mL9999, cL9999, kL9999, aL20000, La20000, mL20000, cL20000, kL20000, aL96000, La96000, mL96000, cL96000, kL96000, nI_leI, nI_ltI, ne_bI, eq_bI, if_pos, if_neg, f_X8_usersIn_L6, h1, h2, h3]
  · simp (disch := first | assumption | omega) only [ob_some, lt_eq, sm_l, sm_r, os_s, os_n, cki_nI, cki_0, cki_1, ck_bI, nI_clamp, cl0, cl1, nI_add, nI_mul, nI_1, nI_a0, nI_0a, nI_1a, nI_1m, aL2, La2, mL2, cL2, kL2, aL3, La3, mL3, cL3, kL3, aL4, La4, mL4, cL4, kL4, aL5, La5, mL5, cL5, kL5, aL6, La6, mL6, cL6, kL6, aL7, La7, mL7, cL7, kL7, aL8, La8, mL8, cL8, kL8, aL9, La9, mL9, cL9, kL9, aL10, La10, mL10, cL10, kL10, aL11, La11, mL11, cL11, kL11, aL12, La12, mL12, cL12, kL12, aL13, La13, mL13, cL13, kL13, aL14, La14, mL14, cL14, kL14, aL15, La15, mL15, cL15, kL15, aL16, La16, mL16, cL16, kL16, aL20, La20, mL20, cL20, kL20, aL21, La21, mL21, cL21, kL21, aL24, La24, mL24, cL24, kL24, aL27, La27, mL27, cL27, kL27, aL30, La30, mL30, cL30, kL30, aL31, La31, mL31, cL31, kL31, aL32, La32, mL32, cL32, kL32, aL48, La48, mL48, cL48, kL48, aL60, La60, mL60, cL60, kL60, aL83, La83, mL83, cL83, kL83, aL97, La97, mL97, cL97, kL97, aL99, La99, mL99, cL99, kL99, aL120, La120, mL120, cL120, kL120, aL122, La122, mL122, cL122, kL122, aL124, La124, mL124, cL124, kL124, aL163, La163, mL163, cL163, kL163, aL177, La177, mL177, cL177, kL177, aL200, La200, mL200, cL200, kL200, aL205, La205, mL205, cL205, kL205, aL255, La255, mL255, cL255, kL255, aL331, La331, mL331, cL331, kL331, aL480, La480, mL480, cL480, kL480, aL999, La999, mL999, cL999, kL999, aL1171, La1171, mL1171, cL1171, kL1171, aL1200, La1200, mL1200, cL1200, kL1200, aL2000, La2000, mL2000, cL2000, kL2000, aL4771, La4771, mL4771, cL4771, kL4771, aL6211, La6211, mL6211, cL6211, kL6211, aL6214, La6214, mL6214, cL6214, kL6214, aL6391, La6391, mL6391, cL6391, kL6391, aL8000, La8000, mL8000, cL8000, kL8000, aL9999, La9999, mL9999, cL9999, kL9999, aL20000, La20000, mL20000, cL20000, kL20000, aL96000, La96000, mL96000, cL96000, kL96000, nI_leI, nI_ltI, ne_bI, eq_bI, if_pos, if_neg, f_X8_usersIn_L6, f_X8_usersIn_L51, h1, h2, h3, e_state C hs hm hk]
    split
    · rfl
    split
    · rfl
    · rfl
theorem e_keeps (C : Cl0 S n p N B) (hs : SpF S p) {m : Nat} (hm : m < kN N 7) (hF : 1000 ≤ F) : f_X8_keepsMessage F S p (nI m) = some (pI (keptN N m), S) := by
  obtain ⟨r, h1, h2, h3⟩ := e_users C
  have b4 := C.wb.n4.2
  unfold f_X8_keepsMessage
  have e := loopX0 (fun fu k (_ : Unit) => f_X8_keepsMessage_L2 F fu S p (nI m) (nI k)) (kN N 4) (fun u _ => if stN N m u < 0 then .inr () else if 2 < stN N m u then .inr () else .inl (1, S)) (fun _ => (0, S)) (F := F) () (by omega) (fun fu a => ?_) (fun fu k a hk => ?_)
  · refine e.trans (congrArg some ?_)
    have g : ∀ c k, k + c = kN N 4 → (∀ u, u < k → ¬ (0 ≤ stN N m u ∧ stN N m u ≤ 2)) → runL (fun u (_ : Unit) => if stN N m u < 0 then .inr () else if 2 < stN N m u then .inr () else .inl ((1 : Int32), S)) (fun _ => ((0 : Int32), S)) c k () = (pI (keptN N m), S) := by
      intro c
      induction c with
      | zero =>
        intro k hk h
        show ((0 : Int32), S) = _
        rw [pI_f]
        rintro ⟨u, q1, q2⟩
        exact h u (by omega) q2
      | succ c ih =>
        intro k hk h
        unfold runL
        by_cases c1 : stN N m k < 0
        · rw [if_pos c1]
          exact ih (k + 1) (by omega) (fun u hu q => by
            rcases Nat.lt_or_ge u k with z | z
            · exact h u z q
            · rw [show u = k by omega] at q; exact (le_nlt.mp q.1) c1)
        rw [if_neg c1]
        by_cases c2 : 2 < stN N m k
        · rw [if_pos c2]
          exact ih (k + 1) (by omega) (fun u hu q => by
            rcases Nat.lt_or_ge u k with z | z
            · exact h u z q
            · rw [show u = k by omega] at q; exact (le_nlt.mp q.2) c2)
        rw [if_neg c2, pI_t ⟨k, by omega, le_nlt.mpr c1, le_nlt.mpr c2⟩]
    exact g _ 0 (by omega) (fun u hu => absurd hu (Nat.not_lt_zero _))
  · simp (disch := first | assumption | omega) only [ob_some, lt_eq, sm_l, sm_r, os_s, os_n, cki_nI, cki_0, cki_1, ck_bI, nI_clamp, cl0, cl1, nI_add, nI_mul, nI_1, nI_a0, nI_0a, nI_1a, nI_1m, aL2, La2, mL2, cL2, kL2, aL3, La3, mL3, cL3, kL3, aL4, La4, mL4, cL4, kL4, aL5, La5, mL5, cL5, kL5, aL6, La6, mL6, cL6, kL6, aL7, La7, mL7, cL7, kL7, aL8, La8, mL8, cL8, kL8, aL9, La9, mL9, cL9, kL9, aL10, La10, mL10, cL10, kL10, aL11, La11, mL11, cL11, kL11, aL12, La12, mL12, cL12, kL12, aL13, La13, mL13, cL13, kL13, aL14, La14, mL14, cL14, kL14, aL15, La15, mL15, cL15, kL15, aL16, La16, mL16, cL16, kL16, aL20, La20, mL20, cL20, kL20, aL21, La21, mL21, cL21, kL21, aL24, La24, mL24, cL24, kL24, aL27, La27, mL27, cL27, kL27, aL30, La30, mL30, cL30, kL30, aL31, La31, mL31, cL31, kL31, aL32, La32, mL32, cL32, kL32, aL48, La48, mL48, cL48, kL48, aL60, La60, mL60, cL60, kL60, aL83, La83, mL83, cL83, kL83, aL97, La97, mL97, cL97, kL97, aL99, La99, mL99, cL99, kL99, aL120, La120, mL120, cL120, kL120, aL122, La122, mL122, cL122, kL122, aL124, La124, mL124, cL124, kL124, aL163, La163, mL163, cL163, kL163, aL177, La177, mL177, cL177, kL177, aL200, La200, mL200, cL200, kL200, aL205, La205, mL205, cL205, kL205, aL255, La255, mL255, cL255, kL255, aL331, La331, mL331, cL331, kL331, aL480, La480, mL480, cL480, kL480, aL999, La999, mL999, cL999, kL999, aL1171, La1171, mL1171, cL1171, kL1171, aL1200, La1200, mL1200, cL1200, kL1200, aL2000, La2000, mL2000, cL2000, kL2000, aL4771, La4771, mL4771, cL4771, kL4771, aL6211, La6211, mL6211, cL6211, kL6211, aL6214, La6214, mL6214, cL6214, kL6214, aL6391, La6391, mL6391, cL6391, kL6391, aL8000, La8000, mL8000, cL8000, kL8000, aL9999, La9999, mL9999, cL9999, kL9999, aL20000, La20000, mL20000, cL20000, kL20000, aL96000, La96000, mL96000, cL96000, kL96000, nI_leI, nI_ltI, ne_bI, eq_bI, if_pos, if_neg, f_X8_keepsMessage_L2, h1, h2, h3]
  · simp (disch := first | assumption | omega) only [ob_some, lt_eq, sm_l, sm_r, os_s, os_n, cki_nI, cki_0, cki_1, ck_bI, nI_clamp, cl0, cl1, nI_add, nI_mul, nI_1, nI_a0, nI_0a, nI_1a, nI_1m, aL2, La2, mL2, cL2, kL2, aL3, La3, mL3, cL3, kL3, aL4, La4, mL4, cL4, kL4, aL5, La5, mL5, cL5, kL5, aL6, La6, mL6, cL6, kL6, aL7, La7, mL7, cL7, kL7, aL8, La8, mL8, cL8, kL8, aL9, La9, mL9, cL9, kL9, aL10, La10, mL10, cL10, kL10, aL11, La11, mL11, cL11, kL11, aL12, La12, mL12, cL12, kL12, aL13, La13, mL13, cL13, kL13, aL14, La14, mL14, cL14, kL14, aL15, La15, mL15, cL15, kL15, aL16, La16, mL16, cL16, kL16, aL20, La20, mL20, cL20, kL20, aL21, La21, mL21, cL21, kL21, aL24, La24, mL24, cL24, kL24, aL27, La27, mL27, cL27, kL27, aL30, La30, mL30, cL30, kL30, aL31, La31, mL31, cL31, kL31, aL32, La32, mL32, cL32, kL32, aL48, La48, mL48, cL48, kL48, aL60, La60, mL60, cL60, kL60, aL83, La83, mL83, cL83, kL83, aL97, La97, mL97, cL97, kL97, aL99, La99, mL99, cL99, kL99, aL120, La120, mL120, cL120, kL120, aL122, La122, mL122, cL122, kL122, aL124, La124, mL124, cL124, kL124, aL163, La163, mL163, cL163, kL163, aL177, La177, mL177, cL177, kL177, aL200, La200, mL200, cL200, kL200, aL205, La205, mL205, cL205, kL205, aL255, La255, mL255, cL255, kL255, aL331, La331, mL331, cL331, kL331, aL480, La480, mL480, cL480, kL480, aL999, La999, mL999, cL999, kL999, aL1171, La1171, mL1171, cL1171, kL1171, aL1200, La1200, mL1200, cL1200, kL1200, aL2000, La2000, mL2000, cL2000, kL2000, aL4771, La4771, mL4771, cL4771, kL4771, aL6211, La6211, mL6211, cL6211, kL6211, aL6214, La6214, mL6214, cL6214, kL6214, aL6391, La6391, mL6391, cL6391, kL6391, aL8000, La8000, mL8000, cL8000, kL8000, aL9999, La9999, mL9999, cL9999, kL9999, aL20000, La20000, mL20000, cL20000, kL20000, aL96000, La96000, mL96000, cL96000, kL96000, nI_leI, nI_ltI, ne_bI, eq_bI, if_pos, if_neg, f_X8_keepsMessage_L2, f_X8_keepsMessage_L34, h1, h2, h3, e_state C hs hm hk]
    split
    · rfl
    split
    · rfl
    · rfl
end CRd
