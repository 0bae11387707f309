/-! a reference ends: the class -/
/-- the rules and the states alone -/
def Vw (S : St) (n p : Nat) (N B : Nat → Int32) : Prop := WB N B ∧ (∃ r, sr S 700 p = some r ∧ (r = 1 ∨ dyn n r 19) ∧ CR S r N) ∧ si S 705 p = N 7 ∧ ∀ m u, m < kN N 7 → u < 10 → ai S (p + 3) (10 * m + u) = stN N m u ∧ True
section Vv
variable {F : Nat} {S : St} {n p : Nat} {N B : Nat → Int32}
theorem Vw.wb (h : Vw S n p N B) : WB N B := h.1
theorem Vw.ru (h : Vw S n p N B) : ∃ r, sr S 700 p = some r ∧ (r = 1 ∨ dyn n r 19) ∧ CR S r N := h.2.1
theorem Vw.s705 (h : Vw S n p N B) : si S 705 p = nI (kN N 7) := h.2.2.1.trans h.wb.n7.1
theorem Vw.cf (h : Vw S n p N B) : ∀ m u, m < kN N 7 → u < 10 → ai S (p + 3) (10 * m + u) = stN N m u ∧ True := h.2.2.2
theorem v_stateX (C : Vw S n p N B) (hs : SpF S p) (x y : Int32) : f_X8_stateOf F S p x y = some (if (0 ≤ x ∧ x < N 7) ∧ (0 ≤ y ∧ y < N 4) then stN N x.toNatClampNeg y.toNatClampNeg else -1, S) := by
  obtain ⟨r, h1, h2, h3⟩ := C.ru
  have w := C.wb
  have b7 := w.n7.2
  have b4 := w.n4.2
  unfold f_X8_stateOf
  by_cases c1 : x < 0
  · rw [if_pos c1, if_neg (fun z => (le_nlt.mp z.1.1) c1)]
  rw [if_neg c1, C.s705]
  by_cases c2 : nI (kN N 7) ≤ x
  · rw [if_pos c2, if_neg (fun z => (le_nlt.mp (w.n7.1 ▸ c2)) z.1.2)]
  rw [if_neg c2, h1, ob_some, h3.1.r606_0, ob_some, e_has (k := kN N 4) (by rw [h3.2.1.2.2.2.1]; exact w.n4.1), ob_some, lt_eq, lt_eq, ne_bI, ← w.n4.1]
  by_cases c3 : 0 ≤ y ∧ y < N 4
  · have c1' : 0 ≤ x ∧ x < nI (kN N 7) := ⟨le_nlt.mpr c1, by rw [le_nlt] at c2; exact Classical.not_not.mp c2⟩
    rw [if_pos c3, if_pos ⟨by rw [w.n7.1]; exact c1', c3⟩]
    rw [w.n4.1] at c3
    obtain ⟨m, hm, rfl⟩ := ix (by omega) c1'
    obtain ⟨u, hu, rfl⟩ := ix (by omega) c3
    rw [show (10 : Int32) = nI 10 from rfl, nI_mul, nI_add, hs.r707_0, ob_some, e_at (by rw [hs.l3]; omega) (by rw [hs.l3]; omega), ob_some, lt_eq, lt_eq, nI_clamp (by omega), nI_clamp (by omega), Nat.mul_comm m 10, (C.cf m u hm (by omega)).1]
  · rw [if_neg c3, if_neg (fun z => c3 z.2)]
theorem v_state (C : Vw S n p N B) (hs : SpF S p) {m u : Nat} (hm : m < kN N 7) (hu : u < kN N 4) : f_X8_stateOf F S p (nI m) (nI u) = some (stN N m u, S) := by
  have b7 := C.wb.n7.2
  have b4 := C.wb.n4.2
  rw [v_stateX C hs, C.wb.n7.1, C.wb.n4.1, if_pos ⟨⟨nI_pos' (by omega), nI_lt hm (by omega)⟩, ⟨nI_pos' (by omega), nI_lt hu (by omega)⟩⟩, nI_clamp (by omega), nI_clamp (by omega)]
theorem v_users (C : Vw S n p N B) : ∃ r, sr S 700 p = some r ∧ sr S 606 r = some (r + 6) ∧ si S 401 (r + 6) = nI (kN N 4) := by
  obtain ⟨r, h1, h2, h3⟩ := C.ru
  exact ⟨r, h1, h3.1.r606_0, h3.2.1.2.2.2.1.trans C.wb.n4.1⟩
theorem v_keeps (C : Vw S n p N B) (hs : SpF S p) {m : Nat} (hm : m < kN N 7) (hF : 1000 ≤ F) : f_X8_keepsMessage F S p (nI m) = some (pI (keptN N m), S) := by
  obtain ⟨r, h1, h2, h3⟩ := v_users C
  have b4 := C.wb.n4.2
  unfold f_X8_keepsMessage
  have e := loopX0 (fun fu k (_ : Unit) => f_X8_keepsMessage_L2 F fu S p (nI m) (nI k)) (kN N 4) (fun u _ => if stN N m u < 0 then .inr () else if 2 < stN N m u then .inr () else .inl (1, S)) (fun _ => (0, S)) (F := F) () (by omega) (fun fu a => ?_) (fun fu k a hk => ?_)
  · refine e.trans (congrArg some ?_)
    have g : ∀ c k, k + c = kN N 4 → (∀ u, u < k → ¬ (0 ≤ stN N m u ∧ stN N m u ≤ 2)) → runL (fun u (_ : Unit) => if stN N m u < 0 then .inr () else if 2 < stN N m u then .inr () else .inl ((1 : Int32), S)) (fun _ => ((0 : Int32), S)) c k () = (pI (keptN N m), S) := by
      intro c
      induction c with
      | zero =>
        intro k hk h
        show ((0 : Int32), S) = _
        rw [pI_f]
        rintro ⟨u, q1, q2⟩
        exact h u (by omega) q2
      | succ c ih =>
        intro k hk h
        unfold runL
        by_cases c1 : stN N m k < 0
        · rw [if_pos c1]
          exact ih (k + 1) (by omega) (fun u hu q => by
            rcases Nat.lt_or_ge u k with z | z
            · exact h u z q
            · rw [show u = k by omega] at q; exact (le_nlt.mp q.1) c1)
        rw [if_neg c1]
        by_cases c2 : 2 < stN N m k
        · rw [if_pos c2]
          exact ih (k + 1) (by omega) (fun u hu q => by
            rcases Nat.lt_or_ge u k with z | z
            · exact h u z q
            · rw [show u = k by omega] at q; exact (le_nlt.mp q.2) c2)
        rw [if_neg c2, pI_t ⟨k, by omega, le_nlt.mpr c1, le_nlt.mpr c2⟩]
    exact g _ 0 (by omega) (fun u hu => absurd hu (Nat.not_lt_zero _))
  · simp (disch := first | assumption | omega) only [ob_some, lt_eq, sm_l, sm_r, os_s, os_n, cki_nI, cki_0, cki_1, ck_bI, nI_clamp, cl0, cl1, nI_add, nI_mul, nI_1, nI_a0, nI_0a, nI_1a, nI_1m, aL2, La2, mL2, cL2, kL2, aL3, La3, mL3, cL3, kL3, aL4, La4, mL4, cL4, kL4, aL5, La5, mL5, cL5, kL5, aL6, La6, mL6, cL6, kL6, aL7, La7, mL7, cL7, kL7, aL8, La8, mL8, cL8, kL8, aL9, La9, mL9, cL9, kL9, aL10, La10, mL10, cL10, kL10, aL11, La11, mL11, cL11, kL11, aL12, La12, mL12, cL12, kL12, aL13, La13, mL13, cL13, kL13, aL14, La14, mL14, cL14, kL14, aL15, La15, mL15, cL15, kL15, aL16, La16, mL16, cL16, kL16, aL20, La20, mL20, cL20, kL20, aL21, La21, mL21, cL21, kL21, aL24, La24, mL24, cL24, kL24, aL27, La27, mL27, cL27, kL27, aL30, La30, mL30, cL30, kL30, aL31, La31, mL31, cL31, kL31, aL32, La32, mL32, cL32, kL32, aL48, La48, mL48, cL48, kL48, aL60, La60, mL60, cL60, kL60, aL83, La83, mL83, cL83, kL83, aL97, La97, mL97, cL97, kL97, aL99, La99, mL99, cL99, kL99, aL120, La120, mL120, cL120, kL120, aL122, La122, mL122, cL122, kL122, aL124, La124, mL124, cL124, kL124, aL163, La163, mL163, cL163, kL163, aL177, La177, mL177, cL177, kL177, aL200, La200, mL200, cL200, kL200, aL205, La205, mL205, cL205, kL205, aL255, La255, mL255, cL255, kL255, aL331, La331, mL331, cL331, kL331, aL480, La480, mL480, cL480, kL480, aL999, La999, mL999, cL999, kL999, aL1171, La1171, mL1171, cL1171, kL1171, aL1200, La1200, mL1200, cL1200, kL1200, aL2000, La2000, mL2000, cL2000, kL2000, aL4771, La4771, mL4771, cL4771, kL4771, aL6211, La6211, mL6211, cL6211, kL6211, aL6214, La6214, mL6214, cL6214, kL6214, aL6391, La6391, mL6391, cL6391, kL6391, aL8000, La8000, mL8000, cL8000, kL8000, aL9999, La9999, mL9999, cL9999, kL9999, aL20000, La20000, mL20000, cL20000, kL20000, aL96000, La96000, mL96000, cL96000, kL96000, nI_leI, nI_ltI, ne_bI, eq_bI, if_pos, if_neg, f_X8_keepsMessage_L2, h1, h2, h3]
  · simp (disch := first | assumption | omega) only [ob_some, lt_eq, sm_l, sm_r, os_s, os_n, cki_nI, cki_0, cki_1, ck_bI, nI_clamp, cl0, cl1, nI_add, nI_mul, nI_1, nI_a0, nI_0a, nI_1a, nI_1m, aL2, La2, mL2, cL2, kL2, aL3, La3, mL3, cL3, kL3, aL4, La4, mL4, cL4, kL4, aL5, La5, mL5, cL5, kL5, aL6, La6, mL6, cL6, kL6, aL7, La7, mL7, cL7, kL7, aL8, La8, mL8, cL8, kL8, aL9, La9, mL9, cL9, kL9, aL10, La10, mL10, cL10, kL10, aL11, La11, mL11, cL11, kL11, aL12, La12, mL12, cL12, kL12, aL13, La13, mL13, cL13, kL13, aL14, La14, mL14, cL14, kL14, aL15, La15, mL15, cL15, kL15, aL16, La16, mL16, cL16, kL16, aL20, La20, mL20, cL20, kL20, aL21, La21, mL21, cL21, kL21, aL24, La24, mL24, cL24, kL24, aL27, La27, mL27, cL27, kL27, aL30, La30, mL30, cL30, kL30, aL31, La31, mL31, cL31, kL31, aL32, La32, mL32, cL32, kL32, aL48, La48, mL48, cL48, kL48, aL60, La60, mL60, cL60, kL60, aL83, La83, mL83, cL83, kL83, aL97, La97, mL97, cL97, kL97, aL99, La99, mL99, cL99, kL99, aL120, La120, mL120, cL120, kL120, aL122, La122, mL122, cL122, kL122, aL124, La124, mL124, cL124, kL124, aL163, La163, mL163, cL163, kL163, aL177, La177, mL177, cL177, kL177, aL200, La200, mL200, cL200, kL200, aL205, La205, mL205, cL205, kL205, aL255, La255, mL255, cL255, kL255, aL331, La331, mL331, cL331, kL331, aL480, La480, mL480, cL480, kL480, aL999, La999, mL999, cL999, kL999, aL1171, La1171, mL1171, cL1171, kL1171, aL1200, La1200, mL1200, cL1200, kL1200, aL2000, La2000, mL2000, cL2000, kL2000, aL4771, La4771, mL4771, cL4771, kL4771, aL6211, La6211, mL6211, cL6211, kL6211, aL6214, La6214, mL6214, cL6214, kL6214, aL6391, La6391, mL6391, cL6391, kL6391, aL8000, La8000, mL8000, cL8000, kL8000, aL9999, La9999, mL9999, cL9999, kL9999, aL20000, La20000, mL20000, cL20000, kL20000, aL96000, La96000, mL96000, cL96000, kL96000, nI_leI, nI_ltI, ne_bI, eq_bI, if_pos, if_neg, f_X8_keepsMessage_L2, f_X8_keepsMessage_L34, h1, h2, h3, v_state C hs hm hk]
    split
    · rfl
    split
    · rfl
    · rfl
end Vv
/-- the parts of m that nobody keeps -/
def dieP (N : Nat → Int32) (m q : Nat) : Prop := hasN N m q ∧ ¬ ∃ m', m' < kN N 7 ∧ hasN N m' q ∧ keptN N m'
/-- the spool when the reference's state becomes s, event a -/
noncomputable def seN (L : (Nat → Int32) → Int32 → Int32 → Nat → Int32) (N : Nat → Int32) (m u : Nat) (s a : Int32) : Nat → Int32 := pif (keptN (stS N m u s) m) (L (stS N m u s) a (nI m)) (buryN L (dieP (stS N m u s) m) (kN N 8) (L (stS N m u s) a (nI m)))
theorem cntP_or {A P : Nat → Prop} : ∀ {b : Nat}, (∀ k, k < b → A k → ¬ P k) → cntP (fun k => A k ∨ P k) b = cntP A b + cntP P b := by
  intro b
  induction b with
  | zero => intro _; rfl
  | succ b ih =>
    intro h
    rw [cntP_s, cntP_s, cntP_s, ih (fun k hk => h k (by omega))]
    by_cases a : A b
    · rw [pif_t (Or.inl a), pif_t a, pif_f (h b (by omega) a)]; omega
    · rw [pif_f a]
      by_cases c : P b
      · rw [pif_t (Or.inr c), pif_t c]; omega
      · rw [pif_f (fun z => z.elim a c), pif_f c]; omega
section Se
variable {S T : St} {n p m u c0 : Nat} {N M B : Nat → Int32} {s : Int32} {P : Nat → Prop}
theorem Cl.se (g : Cl S n p N B) (hp : 27 ≤ p ∧ p + 20 < 212) (hm : m < kN N 7) (hu : u < kN N 4) (w : WB M B) (hj : CJ T p M)
    (e : ∀ k, k < 6211 → ¬ k = 9 → ¬ xD k → M k = stS N m u s k) (hde : ∀ q, q < 480 → deN M q = pif (P q) (N 2) (deN N q)) (hP : ∀ q, P q → q < kN N 8 ∧ isN N q = 1 ∧ deN N q = -1)
    (hl : ∀ q, q < kN N 8 → ((∃ m', m' < kN N 7 ∧ hasN N m' q ∧ keptN M m') ↔ deN N q = -1 ∧ ¬ P q))
    (hO : ∀ i, ¬ i = p + 3 → ¬ i = p + 6 → ¬ i = p + 9 → ¬ i = p + 10 → ¬ (p + 13 ≤ i ∧ i ≤ p + 16) → SameO S T i)
    (h3 : ∀ k, ai T (p + 3) k = if k = 10 * m + u then s else ai S (p + 3) k)
    (h6 : si T 800 (p + 6) = si S 800 (p + 6) ∧ si T 801 (p + 6) = si S 801 (p + 6) ∧ si S 802 (p + 6) = nI c0 ∧ si T 802 (p + 6) = nI (c0 + cntP P (kN N 8))) (c480 : c0 ≤ 480)
    (h9 : ∀ q, q < kN N 8 → ai T (p + 9) q = nI (cntP (fun m' => hasN N m' q ∧ keptN M m') (kN N 7))) (h10 : ∀ q, q < kN N 8 → ai T (p + 10) q = pif (P q) (N 2) (ai S (p + 10) q)) : Cl T n p M B := by
  have C := g.c0
  have w0 := C.wb
  have b4 := w0.n4.2
  have b7 := w0.n7.2
  have b8 := w0.n8.2
  have U : ∀ k, k < 6211 → ¬ k = 9 → ¬ xD k → ¬ k = 1171 + 3 * (10 * m + u) → M k = N k := fun k a b c d => (e k a b c).trans (stS_n d)
  have hE : EqX (fun k => xD k ∨ k = 1171 + 3 * (10 * m + u)) N M := fun k a b c => U k a b (fun z => c (Or.inl z)) (fun z => c (Or.inr z))
  have hX : okX (fun k => xD k ∨ k = 1171 + 3 * (10 * m + u)) := fun k z => by unfold xD at z; omega
  have hK : ∀ k, k < 6211 → ¬ k = 9 → ¬ xD k → ¬ k = 1171 + 3 * (10 * m + u) → kN M k = kN N k := fun k a b c d => by unfold kN; rw [U k a b c d]
  have nD : ∀ k, (k < 4771 ∨ ¬ k % 3 = 0) → ¬ xD k := fun k h z => by unfold xD at z; omega
  have k7 : kN M 7 = kN N 7 := hK 7 (by omega) (by omega) (nD _ (by omega)) (by omega)
  have k8 : kN M 8 = kN N 8 := hK 8 (by omega) (by omega) (nD _ (by omega)) (by omega)
  have k4 : kN M 4 = kN N 4 := hK 4 (by omega) (by omega) (nD _ (by omega)) (by omega)
  have k2 : kN M 2 = kN N 2 := hK 2 (by omega) (by omega) (nD _ (by omega)) (by omega)
  have n2 : ¬ N 2 = -1 := fun z => nI_pos (n := kN N 2) (by have := w0.n2.2; omega) (by rw [← w0.n2.1, z]; decide)
  have is : ∀ q, q < 480 → isN M q = isN N q := fun q hq => U _ (by omega) (by omega) (nD _ (by omega)) (by omega)
  have link : ∀ q, q < kN N 8 → (deN M q = -1 ↔ deN N q = -1 ∧ ¬ P q) := fun q hq => by
    rw [hde q (by omega)]
    by_cases z : P q
    · rw [pif_t z]
      exact ⟨fun y => absurd y n2, fun y => absurd z y.2⟩
    · rw [pif_f z]
      exact ⟨fun y => ⟨y, z⟩, fun y => y.1⟩
  have has : ∀ m' q, m' < kN N 7 → (hasN M m' q ↔ hasN N m' q) := fun m' q hm' => hE.has (fun k z => by unfold xD at z; omega) (by omega) (w0.wM m' hm').2.2.2.1.2
  have P0 := hO p (by omega) (by omega) (by omega) (by omega) (by omega)
  refine Cl.mk' (Cl0.x hE hX w.n9 C (fun i hi => hO i (by omega) (by omega) (by omega) (by omega) (by omega)) (P0.2.1 700) ⟨P0.1 701, P0.1 702, P0.1 705⟩ w.wU w.wH w.wR w.wP ?_ ?_ ?_ ?_ ?_ ?_) hj (by rw [k2]; exact g.dy)
  · intro q hq
    rw [link q hq]
    refine ⟨((hl q hq).symm).trans ⟨?_, ?_⟩, fun y => by rw [is q (by omega)]; exact C.wf.isd hq y.1⟩
    · exact fun ⟨m', x1, x2, x3⟩ => ⟨m', x1, x2, x3⟩
    · exact fun ⟨m', x1, x2, x3⟩ => ⟨m', x1, x2, x3⟩
  · obtain ⟨act, a1, a2, a3⟩ := C.ac
    refine ⟨act, (P0.1 703).trans a1, a2, fun x hx => ?_⟩
    rw [U (208 + 21 * x) (by omega) (by omega) (nD _ (by omega)) (by omega)]
    exact a3 x hx
  · intro c hc
    rw [(hO (p + 1) (by omega) (by omega) (by omega) (by omega) (by omega)).row, U _ (by omega) (by omega) (nD _ (by omega)) (by omega)]
    exact C.qu c hc
  · intro m' u' hm' hu'
    have cf := C.cf m' u' hm' hu'
    rw [h3, (hO (p + 5) (by omega) (by omega) (by omega) (by omega) (by omega)).row, (hO (p + 4) (by omega) (by omega) (by omega) (by omega) (by omega)).row]
    have e2 : enN M m' u' = enN N m' u' := U _ (by omega) (by omega) (nD _ (by omega)) (by omega)
    have e1 : clN M m' u' = clN N m' u' := U _ (by omega) (by omega) (nD _ (by omega)) (by omega)
    have e0 : stN M m' u' = stN (stS N m u s) m' u' := e _ (by omega) (by omega) (nD _ (by omega))
    rw [e0, e1, e2, stS_st (by omega) hu']
    refine ⟨?_, cf.2⟩
    by_cases z : m' = m ∧ u' = u
    · rw [if_pos z, if_pos (by rw [z.1, z.2])]
    · rw [if_neg z, if_neg (by omega)]
      exact cf.1
  · refine ⟨h6.1, ?_, ?_⟩
    · rw [h6.2.1, C.cp.1.2.1]
      exact congrArg nI (cntP_c (fun q hq => by rw [is q (by omega)]))
    · have c0e : nI c0 = nI (cntP (fun q => isN N q = 1 ∧ ¬ deN N q = -1) (kN N 8)) := h6.2.2.1.symm.trans C.cp.1.2.2
      have := cntP_le (fun q => isN N q = 1 ∧ ¬ deN N q = -1) (kN N 8)
      have c0f := (nI_eq (by omega) (by omega)).mp c0e
      rw [h6.2.2.2, c0f, ← cntP_or (A := fun q => isN N q = 1 ∧ ¬ deN N q = -1) (P := P) (fun k _ a z => a.2 (hP k z).2.2)]
      refine congrArg nI (cntP_c (fun q hq => ?_))
      rw [is q (by omega), link q hq]
      constructor
      · rintro (a | a)
        · exact ⟨a.1, fun y => a.2 y.1⟩
        · exact ⟨(hP q a).2.1, fun y => y.2 a⟩
      · rintro ⟨a, b⟩
        by_cases z : P q
        · exact Or.inr z
        · exact Or.inl ⟨a, fun y => b ⟨y, z⟩⟩
  · intro q hq
    have cc := C.cp.2 q hq
    refine ⟨h9 q hq, ?_⟩
    rw [h10 q hq, cc.2.2.2, is q (by omega), hde q (by omega)]
    by_cases z : P q
    · rw [pif_t z, pif_t z, if_pos (hP q z).2.1]
    · rw [pif_f z, pif_f z]
end Se
