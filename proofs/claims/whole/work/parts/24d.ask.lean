/-! calls that ask, III -/
def livA (N : Nat → Int32) (u : Nat) (c : Int32) (k0 : Nat) : Int32 := runN (fun k a => if ¬ stN N k u = 0 then a else if ¬ clN N k u = c then a else a + 1) (kN N 7 - k0) k0 0
noncomputable def atN (N : Nat → Int32) (i : Nat) : Option Nat := runL (fun q (a : Nat) => if isN N q = 1 then (if a = i then .inl (some q) else .inr (a + 1)) else .inr a) (fun _ => (none : Option Nat)) (kN N 8) 0 0
theorem atN_run {N : Nat → Int32} {i : Nat} : ∀ c k a, runL (fun q (a : Nat) => if isN N q = 1 then (if a = i then .inl (nI q) else .inr (a + 1)) else .inr a) (fun _ => (-1 : Int32)) c k a = (match runL (fun q (a : Nat) => if isN N q = 1 then (if a = i then .inl (some q) else .inr (a + 1)) else .inr a) (fun _ => (none : Option Nat)) c k a with
    | some q => nI q
    | none => -1) := by
  intro c
  induction c with
  | zero => intro k a; rfl
  | succ c ih =>
    intro k a
    unfold runL
    by_cases h1 : isN N k = 1
    · by_cases h2 : a = i
      · simp only [h1, h2, if_true]
      · simp only [h1, h2, if_true, if_false]; exact ih (k + 1) (a + 1)
    · simp only [h1, if_false]; exact ih (k + 1) a
theorem atN_some {N : Nat → Int32} {i : Nat} : ∀ c k, cntP (fun q => isN N q = 1) k ≤ i → ((∃ q, runL (fun q (a : Nat) => if isN N q = 1 then (if a = i then .inl (some q) else .inr (a + 1)) else .inr a) (fun _ => (none : Option Nat)) c k (cntP (fun q => isN N q = 1) k) = some q ∧ q < k + c) ∧ i < cntP (fun q => isN N q = 1) (k + c)) ∨ (runL (fun q (a : Nat) => if isN N q = 1 then (if a = i then .inl (some q) else .inr (a + 1)) else .inr a) (fun _ => (none : Option Nat)) c k (cntP (fun q => isN N q = 1) k) = none ∧ ¬ i < cntP (fun q => isN N q = 1) (k + c)) := by
  intro c
  induction c with
  | zero => intro k h; exact Or.inr ⟨rfl, by show ¬ i < cntP _ k; omega⟩
  | succ c ih =>
    intro k h
    unfold runL
    have hs := cntP_s (fun q => isN N q = 1) k
    by_cases h1 : isN N k = 1
    · rw [pif_t h1] at hs
      by_cases h2 : cntP (fun q => isN N q = 1) k = i
      · simp only [h1, h2, if_true]
        refine Or.inl ⟨⟨k, rfl, by omega⟩, ?_⟩
        have : ∀ b, k + 1 ≤ b → cntP (fun q => isN N q = 1) (k + 1) ≤ cntP (fun q => isN N q = 1) b := by
          intro b
          induction b with
          | zero => intro z; omega
          | succ b ihb =>
            intro z
            by_cases y : k + 1 = b + 1
            · rw [y]; exact Nat.le_refl _
            · rw [cntP_s _ b]
              exact Nat.le_trans (ihb (by omega)) (Nat.le_add_right _ _)
        have := this (k + (c + 1)) (by omega)
        omega
      · simp only [h1, h2, if_true, if_false]
        have := ih (k + 1) (by omega)
        rw [hs, show k + 1 + c = k + (c + 1) by omega] at this
        exact this
    · simp only [h1, if_false]
      rw [pif_f h1] at hs
      have := ih (k + 1) (by omega)
      rw [hs, show k + 1 + c = k + (c + 1) by omega] at this
      exact this
theorem atN_lt {N : Nat → Int32} {i : Nat} : (∃ q, atN N i = some q ∧ q < kN N 8) ∧ i < cntP (fun q => isN N q = 1) (kN N 8) ∨ atN N i = none ∧ ¬ i < cntP (fun q => isN N q = 1) (kN N 8) := by
  have := atN_some (N := N) (i := i) (kN N 8) 0 (Nat.zero_le _)
  rw [Nat.zero_add] at this
  exact this
theorem mod60 {a : Nat} (h : a < 200) : nI a - nI a / 60 * 60 = nI (a % 60) := (show ∀ a, a < 200 → nI a - nI a / 60 * 60 = nI (a % 60) by decide +kernel) a h
theorem and255 {v : Int32} (h : 0 ≤ v ∧ v ≤ 127) : v &&& 255 = v := by
  obtain ⟨k, hk, rfl⟩ := nI_of2 (M := 127) (n := 127) rfl (le_nlt.mp h.1) h.2
  exact (show ∀ k, k ≤ 127 → nI k &&& 255 = nI k by decide +kernel) k hk
noncomputable def kpN (N : Nat → Int32) (q : Nat) : Nat := cntP (fun m => hasN N m q ∧ keptN N m) (kN N 7)
noncomputable def bestS (N : Nat → Int32) (q : Nat) (b : Option Nat) : Option Nat := if isN N q = 1 then (match b with
    | none => if 0 < kpN N q then some q else none
    | some b' => if kpN N b' < kpN N q then some q else some b') else b
def encO (b : Option Nat) : Int32 := match b with
  | none => -1
  | some q => nI q
section A
variable {F : Nat} {xs : Nat → Int32} {L : Nat} {S : St} {n : Nat} {i : Int32}
theorem m_keptRef {B : Nat → Int32} (hx : FxF S) (w : WB (ai S 198) B) {m u c : Nat} (hm : m < kN (ai S 198) 7) (hu : u < 10) (hc : c < 8) (hcl : clN (ai S 198) m u = nI c) (hF : 1000 ≤ F) : f_X11_isKeptRef F S 197 (nI m) (nI u) = some (bI (livA (ai S 198) u (nI c) (m + 1) < ai S 198 (12 + 9 * c)), S) := by
  have b7 := w.n7.2
  have q7 := w.n7.1
  have cl : ∀ k, ai S 198 (1171 + 3 * (10 * k + u) + 1) = clN (ai S 198) k u := fun k => by unfold clN; rw [show 1171 + 3 * (10 * k + u) + 1 = 1172 + 3 * (10 * k + u) by omega]
  unfold f_X11_isKeptRef livA
  simp (disch := first | assumption | omega) only [ob_some, lt_eq, sm_l, sm_r, os_s, os_n, cki_nI, cki_0, cki_1, ck_bI, nI_clamp, cl0, cl1, nI_add, nI_mul, nI_1, nI_a0, nI_0a, nI_1a, nI_1m, aL2, La2, mL2, cL2, kL2, aL3, La3, mL3, cL3, kL3, aL4, La4, mL4, cL4, kL4, aL5, La5, mL5, cL5, kL5, aL6, La6, mL6, cL6, kL6, aL7, La7, mL7, cL7, kL7, aL8, La8, mL8, cL8, kL8, aL9, La9, mL9, cL9, kL9, aL10, La10, mL10, cL10, kL10, aL11, La11, mL11, cL11, kL11, aL12, La12, mL12, cL12, kL12, aL13, La13, mL13, cL13, kL13, aL14, La14, mL14, cL14, kL14, aL15, La15, mL15, cL15, kL15, aL16, La16, mL16, cL16, kL16, aL20, La20, mL20, cL20, kL20, aL21, La21, mL21, cL21, kL21, aL24, La24, mL24, cL24, kL24, aL27, La27, mL27, cL27, kL27, aL30, La30, mL30, cL30, kL30, aL31, La31, mL31, cL31, kL31, aL32, La32, mL32, cL32, kL32, aL48, La48, mL48, cL48, kL48, aL60, La60, mL60, cL60, kL60, aL83, La83, mL83, cL83, kL83, aL97, La97, mL97, cL97, kL97, aL99, La99, mL99, cL99, kL99, aL120, La120, mL120, cL120, kL120, aL122, La122, mL122, cL122, kL122, aL124, La124, mL124, cL124, kL124, aL163, La163, mL163, cL163, kL163, aL177, La177, mL177, cL177, kL177, aL200, La200, mL200, cL200, kL200, aL205, La205, mL205, cL205, kL205, aL255, La255, mL255, cL255, kL255, aL331, La331, mL331, cL331, kL331, aL480, La480, mL480, cL480, kL480, aL999, La999, mL999, cL999, kL999, aL1171, La1171, mL1171, cL1171, kL1171, aL1200, La1200, mL1200, cL1200, kL1200, aL2000, La2000, mL2000, cL2000, kL2000, aL4771, La4771, mL4771, cL4771, kL4771, aL6211, La6211, mL6211, cL6211, kL6211, aL6214, La6214, mL6214, cL6214, kL6214, aL6391, La6391, mL6391, cL6391, kL6391, aL8000, La8000, mL8000, cL8000, kL8000, aL9999, La9999, mL9999, cL9999, kL9999, aL20000, La20000, mL20000, cL20000, kL20000, aL96000, La96000, mL96000, cL96000, kL96000, nI_leI, nI_ltI, ne_bI, eq_bI, hx.r1001_197, hx.l198, m_refAt, cl, hcl]
  have e := loopR (fun fu k a => f_X11_isKeptRef_L21 F fu S 197 (nI u) (nI c) a (nI k)) (kN (ai S 198) 7) (fun k a => if ¬ stN (ai S 198) k u = 0 then a else if ¬ clN (ai S 198) k u = nI c then a else a + 1) (fun a => (bI (a < ai S 198 (12 + 9 * c)), S)) (F := F) (k0 := m + 1) 0 (by omega) (by omega) (fun fu a => ?_) (fun fu k a _ hk => ?_)
  · exact e
  · simp (disch := first | assumption | omega) only [ob_some, lt_eq, sm_l, sm_r, os_s, os_n, cki_nI, cki_0, cki_1, ck_bI, nI_clamp, cl0, cl1, nI_add, nI_mul, nI_1, nI_a0, nI_0a, nI_1a, nI_1m, aL2, La2, mL2, cL2, kL2, aL3, La3, mL3, cL3, kL3, aL4, La4, mL4, cL4, kL4, aL5, La5, mL5, cL5, kL5, aL6, La6, mL6, cL6, kL6, aL7, La7, mL7, cL7, kL7, aL8, La8, mL8, cL8, kL8, aL9, La9, mL9, cL9, kL9, aL10, La10, mL10, cL10, kL10, aL11, La11, mL11, cL11, kL11, aL12, La12, mL12, cL12, kL12, aL13, La13, mL13, cL13, kL13, aL14, La14, mL14, cL14, kL14, aL15, La15, mL15, cL15, kL15, aL16, La16, mL16, cL16, kL16, aL20, La20, mL20, cL20, kL20, aL21, La21, mL21, cL21, kL21, aL24, La24, mL24, cL24, kL24, aL27, La27, mL27, cL27, kL27, aL30, La30, mL30, cL30, kL30, aL31, La31, mL31, cL31, kL31, aL32, La32, mL32, cL32, kL32, aL48, La48, mL48, cL48, kL48, aL60, La60, mL60, cL60, kL60, aL83, La83, mL83, cL83, kL83, aL97, La97, mL97, cL97, kL97, aL99, La99, mL99, cL99, kL99, aL120, La120, mL120, cL120, kL120, aL122, La122, mL122, cL122, kL122, aL124, La124, mL124, cL124, kL124, aL163, La163, mL163, cL163, kL163, aL177, La177, mL177, cL177, kL177, aL200, La200, mL200, cL200, kL200, aL205, La205, mL205, cL205, kL205, aL255, La255, mL255, cL255, kL255, aL331, La331, mL331, cL331, kL331, aL480, La480, mL480, cL480, kL480, aL999, La999, mL999, cL999, kL999, aL1171, La1171, mL1171, cL1171, kL1171, aL1200, La1200, mL1200, cL1200, kL1200, aL2000, La2000, mL2000, cL2000, kL2000, aL4771, La4771, mL4771, cL4771, kL4771, aL6211, La6211, mL6211, cL6211, kL6211, aL6214, La6214, mL6214, cL6214, kL6214, aL6391, La6391, mL6391, cL6391, kL6391, aL8000, La8000, mL8000, cL8000, kL8000, aL9999, La9999, mL9999, cL9999, kL9999, aL20000, La20000, mL20000, cL20000, kL20000, aL96000, La96000, mL96000, cL96000, kL96000, nI_leI, nI_ltI, ne_bI, eq_bI, if_pos, if_neg, f_X11_isKeptRef_L21, hx.r1001_197, hx.l198, q7, m_cls1 hx hc]
    by_cases z : ai S 198 (12 + 9 * c) ≤ a
    · rw [if_pos z, bI_f (le_nlt.mp z)]
    · rw [if_neg z, bI_t (by rw [le_nlt] at z; exact Classical.not_not.mp z)]
  · simp (disch := first | assumption | omega) only [ob_some, lt_eq, sm_l, sm_r, os_s, os_n, cki_nI, cki_0, cki_1, ck_bI, nI_clamp, cl0, cl1, nI_add, nI_mul, nI_1, nI_a0, nI_0a, nI_1a, nI_1m, aL2, La2, mL2, cL2, kL2, aL3, La3, mL3, cL3, kL3, aL4, La4, mL4, cL4, kL4, aL5, La5, mL5, cL5, kL5, aL6, La6, mL6, cL6, kL6, aL7, La7, mL7, cL7, kL7, aL8, La8, mL8, cL8, kL8, aL9, La9, mL9, cL9, kL9, aL10, La10, mL10, cL10, kL10, aL11, La11, mL11, cL11, kL11, aL12, La12, mL12, cL12, kL12, aL13, La13, mL13, cL13, kL13, aL14, La14, mL14, cL14, kL14, aL15, La15, mL15, cL15, kL15, aL16, La16, mL16, cL16, kL16, aL20, La20, mL20, cL20, kL20, aL21, La21, mL21, cL21, kL21, aL24, La24, mL24, cL24, kL24, aL27, La27, mL27, cL27, kL27, aL30, La30, mL30, cL30, kL30, aL31, La31, mL31, cL31, kL31, aL32, La32, mL32, cL32, kL32, aL48, La48, mL48, cL48, kL48, aL60, La60, mL60, cL60, kL60, aL83, La83, mL83, cL83, kL83, aL97, La97, mL97, cL97, kL97, aL99, La99, mL99, cL99, kL99, aL120, La120, mL120, cL120, kL120, aL122, La122, mL122, cL122, kL122, aL124, La124, mL124, cL124, kL124, aL163, La163, mL163, cL163, kL163, aL177, La177, mL177, cL177, kL177, aL200, La200, mL200, cL200, kL200, aL205, La205, mL205, cL205, kL205, aL255, La255, mL255, cL255, kL255, aL331, La331, mL331, cL331, kL331, aL480, La480, mL480, cL480, kL480, aL999, La999, mL999, cL999, kL999, aL1171, La1171, mL1171, cL1171, kL1171, aL1200, La1200, mL1200, cL1200, kL1200, aL2000, La2000, mL2000, cL2000, kL2000, aL4771, La4771, mL4771, cL4771, kL4771, aL6211, La6211, mL6211, cL6211, kL6211, aL6214, La6214, mL6214, cL6214, kL6214, aL6391, La6391, mL6391, cL6391, kL6391, aL8000, La8000, mL8000, cL8000, kL8000, aL9999, La9999, mL9999, cL9999, kL9999, aL20000, La20000, mL20000, cL20000, kL20000, aL96000, La96000, mL96000, cL96000, kL96000, nI_leI, nI_ltI, ne_bI, eq_bI, f_X11_isKeptRef_L21, f_X11_isKeptRef_L66, f_X11_isKeptRef_L67, hx.r1001_197, hx.l198, q7, m_isLive hx (by omega : k < 120) hu, m_refAt, cl, Int32.add_zero]
    rw [if_neg (by omega)]
    by_cases h1 : stN (ai S 198) k u = 0
    · simp only [if_pos h1, if_neg (show ¬ ¬ stN (ai S 198) k u = 0 from fun z => z h1)]
      by_cases h2 : clN (ai S 198) k u = nI c
      · simp only [if_neg (show ¬ ¬ clN (ai S 198) k u = nI c from fun z => z h2)]
      · simp only [if_pos h2]
    · simp only [if_neg h1, if_pos h1]
theorem ok_22 (hF : 100000 ≤ F) (h : Rel S n) (hi : ∀ k : Nat, k < 6 → vp_in (i + nI k) L) : Ok (f_law22 F xs L S n 0 197 210 211 i) := by
  have h1 : vp_in (i + 1) L := hi 1 (by omega)
  have h2 : vp_in (i + 2) L := hi 2 (by omega)
  unfold f_law22 f_L_isKept f_L_isKept_L16
  simp only [cki_t h1, cki_t h2]
  generalize xs (Int32.toNatClampNeg (i + 1)) = x
  generalize xs (Int32.toNatClampNeg (i + 2)) = y
  refine askZ h (fm := fun S => f_X11_isKept F S 197 x y) (isR (ai S 198) x y) (stN (ai S 198) x.toNatClampNeg y.toNatClampNeg = 0 ∧ livA (ai S 198) y.toNatClampNeg (clN (ai S 198) x.toNatClampNeg y.toNatClampNeg) (x.toNatClampNeg + 1) < ai S 198 (12 + 9 * kN (ai S 198) (1172 + 3 * (10 * x.toNatClampNeg + y.toNatClampNeg)))) 4 1 ?_ rfl (by decide) (fun S' h' e => ?_)
  · unfold f_X10_isKept
    rw [e_needRef h, ob_some]
    by_cases hc : isR (ai S 198) x y
    · obtain ⟨m, u, hm, hm2, hu, hu2, rfl, rfl⟩ := ixR h hc
      obtain ⟨r, q1, q2, q3⟩ := h.ru
      obtain ⟨w4, w5⟩ := (h.w.wR m u hm hu2).2.2.2.2 hu
      have b3 := h.w.n3.2
      have cl : clN (ai S 198) m u = nI (kN (ai S 198) (1172 + 3 * (10 * m + u))) := w4.1
      have l4 := q3.1.l4
      have a4 : f_X10_at F S (r + 4) (nI (kN (ai S 198) (1172 + 3 * (10 * m + u)))) = some (ai S 198 (12 + 9 * kN (ai S 198) (1172 + 3 * (10 * m + u))), S) := by rw [e_at (by omega) (by omega), (q3.2.2.1 _ w5).2.1]
      have lv := e_liveIn (F := F) h.c0 h.fx.sp27 (k0 := m + 1) hu (by omega) (nI (kN (ai S 198) (1172 + 3 * (10 * m + u)))) (by omega)
      rw [if_pos hc, if_pos hc, nI_clamp (by omega), nI_clamp (by omega)]
      simp (disch := first | assumption | omega) only [ob_some, lt_eq, sm_l, sm_r, os_s, os_n, cki_nI, cki_0, cki_1, ck_bI, nI_clamp, cl0, cl1, nI_add, nI_mul, nI_1, nI_a0, nI_0a, nI_1a, nI_1m, aL2, La2, mL2, cL2, kL2, aL3, La3, mL3, cL3, kL3, aL4, La4, mL4, cL4, kL4, aL5, La5, mL5, cL5, kL5, aL6, La6, mL6, cL6, kL6, aL7, La7, mL7, cL7, kL7, aL8, La8, mL8, cL8, kL8, aL9, La9, mL9, cL9, kL9, aL10, La10, mL10, cL10, kL10, aL11, La11, mL11, cL11, kL11, aL12, La12, mL12, cL12, kL12, aL13, La13, mL13, cL13, kL13, aL14, La14, mL14, cL14, kL14, aL15, La15, mL15, cL15, kL15, aL16, La16, mL16, cL16, kL16, aL20, La20, mL20, cL20, kL20, aL21, La21, mL21, cL21, kL21, aL24, La24, mL24, cL24, kL24, aL27, La27, mL27, cL27, kL27, aL30, La30, mL30, cL30, kL30, aL31, La31, mL31, cL31, kL31, aL32, La32, mL32, cL32, kL32, aL48, La48, mL48, cL48, kL48, aL60, La60, mL60, cL60, kL60, aL83, La83, mL83, cL83, kL83, aL97, La97, mL97, cL97, kL97, aL99, La99, mL99, cL99, kL99, aL120, La120, mL120, cL120, kL120, aL122, La122, mL122, cL122, kL122, aL124, La124, mL124, cL124, kL124, aL163, La163, mL163, cL163, kL163, aL177, La177, mL177, cL177, kL177, aL200, La200, mL200, cL200, kL200, aL205, La205, mL205, cL205, kL205, aL255, La255, mL255, cL255, kL255, aL331, La331, mL331, cL331, kL331, aL480, La480, mL480, cL480, kL480, aL999, La999, mL999, cL999, kL999, aL1171, La1171, mL1171, cL1171, kL1171, aL1200, La1200, mL1200, cL1200, kL1200, aL2000, La2000, mL2000, cL2000, kL2000, aL4771, La4771, mL4771, cL4771, kL4771, aL6211, La6211, mL6211, cL6211, kL6211, aL6214, La6214, mL6214, cL6214, kL6214, aL6391, La6391, mL6391, cL6391, kL6391, aL8000, La8000, mL8000, cL8000, kL8000, aL9999, La9999, mL9999, cL9999, kL9999, aL20000, La20000, mL20000, cL20000, kL20000, aL96000, La96000, mL96000, cL96000, kL96000, nI_leI, nI_ltI, ne_bI, eq_bI, h.fx.r905_0, f_X8_classKeeps, f_X8_liveInClass, e_retOf h.c0 h.fx.sp27 hm hu, cl, e_state h.c0 h.fx.sp27 hm hu, lv, q1, q3.1.r604_0, a4]
      unfold livA
      by_cases z1 : stN (ai S 198) m u = 0
      · simp only [if_neg (show ¬ ¬ stN (ai S 198) m u = 0 from fun z => z z1)]
        generalize runN (fun k a => if ¬ stN (ai S 198) k u = 0 then a else if ¬ clN (ai S 198) k u = nI (kN (ai S 198) (1172 + 3 * (10 * m + u))) then a else a + 1) (kN (ai S 198) 7 - (m + 1)) (m + 1) (0 : Int32) = v
        by_cases z2 : ai S 198 (12 + 9 * kN (ai S 198) (1172 + 3 * (10 * m + u))) ≤ v
        · simp only [if_pos z2, ob_some]
          rw [bI_f (fun z => le_nlt.mp z2 z.2)]
          rfl
        · simp only [if_neg z2, ob_some]
          rw [bI_t ⟨z1, by rw [le_nlt] at z2; exact Classical.not_not.mp z2⟩]
          rfl
      · simp only [if_pos z1, ob_some]
        rw [bI_f (fun z => z1 z.1)]
        rfl
    · rw [if_neg hc, if_neg hc]
      rfl
  · refine mdl1 (F := F) h' (isR (ai S 198) x y) _ (chk := f_X11_isRef F S' 197 x y) (body := fun S6 => Option.bind (f_X11_isLive F S6 197 x y) fun z10 => lt z10.1 fun r12 => lt z10.2 fun S11 => if r12 = 0 then (some (0, S11)) else (Option.bind (f_X11_isKeptRef F S11 197 x y) fun z15 => lt z15.1 fun r17 => lt z15.2 fun S16 => if r17 = 0 then (some (0, S16)) else (some (1, S16)))) rfl (by rw [m_isRef h'.fx h'.w, e.net]) (fun hc T ht hx w => noW ?_)
    obtain ⟨m, u, hm, hm2, hu, hu2, rfl, rfl⟩ := ixR h hc
    obtain ⟨w4, w5⟩ := (h.w.wR m u hm hu2).2.2.2.2 hu
    have b3 := h.w.n3.2
    have aT : ai T 198 = ai S 198 := by rw [ht, e.net]
    have cl : clN (ai S 198) m u = nI (kN (ai S 198) (1172 + 3 * (10 * m + u))) := w4.1
    have il := m_isLive (F := F) hx hm2 hu2
    have kr := m_keptRef (F := F) hx w (m := m) (u := u) (c := kN (ai S 198) (1172 + 3 * (10 * m + u))) (by rw [aT]; exact hm) hu2 (by omega) (by rw [aT]; exact cl) (by omega)
    simp only [aT] at il kr
    simp only [nI_clamp (show m < 2 ^ 31 by omega), nI_clamp (show u < 2 ^ 31 by omega), cl]
    simp (disch := first | assumption | omega) only [ob_some, lt_eq, sm_l, sm_r, os_s, os_n, cki_nI, cki_0, cki_1, ck_bI, nI_clamp, cl0, cl1, nI_add, nI_mul, nI_1, nI_a0, nI_0a, nI_1a, nI_1m, aL2, La2, mL2, cL2, kL2, aL3, La3, mL3, cL3, kL3, aL4, La4, mL4, cL4, kL4, aL5, La5, mL5, cL5, kL5, aL6, La6, mL6, cL6, kL6, aL7, La7, mL7, cL7, kL7, aL8, La8, mL8, cL8, kL8, aL9, La9, mL9, cL9, kL9, aL10, La10, mL10, cL10, kL10, aL11, La11, mL11, cL11, kL11, aL12, La12, mL12, cL12, kL12, aL13, La13, mL13, cL13, kL13, aL14, La14, mL14, cL14, kL14, aL15, La15, mL15, cL15, kL15, aL16, La16, mL16, cL16, kL16, aL20, La20, mL20, cL20, kL20, aL21, La21, mL21, cL21, kL21, aL24, La24, mL24, cL24, kL24, aL27, La27, mL27, cL27, kL27, aL30, La30, mL30, cL30, kL30, aL31, La31, mL31, cL31, kL31, aL32, La32, mL32, cL32, kL32, aL48, La48, mL48, cL48, kL48, aL60, La60, mL60, cL60, kL60, aL83, La83, mL83, cL83, kL83, aL97, La97, mL97, cL97, kL97, aL99, La99, mL99, cL99, kL99, aL120, La120, mL120, cL120, kL120, aL122, La122, mL122, cL122, kL122, aL124, La124, mL124, cL124, kL124, aL163, La163, mL163, cL163, kL163, aL177, La177, mL177, cL177, kL177, aL200, La200, mL200, cL200, kL200, aL205, La205, mL205, cL205, kL205, aL255, La255, mL255, cL255, kL255, aL331, La331, mL331, cL331, kL331, aL480, La480, mL480, cL480, kL480, aL999, La999, mL999, cL999, kL999, aL1171, La1171, mL1171, cL1171, kL1171, aL1200, La1200, mL1200, cL1200, kL1200, aL2000, La2000, mL2000, cL2000, kL2000, aL4771, La4771, mL4771, cL4771, kL4771, aL6211, La6211, mL6211, cL6211, kL6211, aL6214, La6214, mL6214, cL6214, kL6214, aL6391, La6391, mL6391, cL6391, kL6391, aL8000, La8000, mL8000, cL8000, kL8000, aL9999, La9999, mL9999, cL9999, kL9999, aL20000, La20000, mL20000, cL20000, kL20000, aL96000, La96000, mL96000, cL96000, kL96000, nI_leI, nI_ltI, ne_bI, eq_bI, il, kr]
    by_cases z1 : stN (ai S 198) m u = 0
    · rw [if_pos z1]
      by_cases z2 : livA (ai S 198) u (nI (kN (ai S 198) (1172 + 3 * (10 * m + u)))) (m + 1) < ai S 198 (12 + 9 * kN (ai S 198) (1172 + 3 * (10 * m + u)))
      · rw [if_pos z2, bI_t ⟨z1, z2⟩]
      · rw [if_neg z2, bI_f (fun z => z2 z.2)]
    · rw [if_neg z1, bI_f (fun z => z1 z.1)]
theorem ok_36 (hF : 100000 ≤ F) (h : Rel S n) (hi : ∀ k : Nat, k < 6 → vp_in (i + nI k) L) : Ok (f_law36 F xs L S n 0 197 210 211 i) := by
  have h1 : vp_in (i + 1) L := hi 1 (by omega)
  have h2 : vp_in (i + 2) L := hi 2 (by omega)
  unfold f_law36 f_L_inClass
  simp only [cki_t h1, cki_t h2]
  generalize xs (Int32.toNatClampNeg (i + 1)) = x
  generalize xs (Int32.toNatClampNeg (i + 2)) = y
  refine askB h (fm := fun S => f_X11_inClass F S 197 x y) ((0 ≤ x ∧ x < ai S 198 4) ∧ (0 ≤ y ∧ y < ai S 198 3)) (livA (ai S 198) x.toNatClampNeg y 0) 4 1 S ?_ (Eqv.rf S) rfl (by decide) (fun S' h' e => ?_)
  · unfold f_X10_inClass
    rw [e_needUser h, ob_some]
    by_cases hc : 0 ≤ x ∧ x < ai S 198 4
    · rw [if_pos hc]
      simp only [lt_eq, sm_r]
      rw [e_needClass h, ob_some]
      by_cases hd : 0 ≤ y ∧ y < ai S 198 3
      · obtain ⟨u, hu, hu2, rfl⟩ := ixU h hc
        have lv := e_liveIn (F := F) h.c0 h.fx.sp27 (k0 := 0) hu (by omega) y (by omega)
        rw [if_pos hd, if_pos ⟨hc, hd⟩, nI_clamp (by omega)]
        simp only [lt_eq, sm_r, h.fx.r905_0, ob_some, f_X8_liveInClass]
        rw [show (-1 : Int32) + 1 = nI 0 by decide, lv]
        rfl
      · rw [if_neg hd, if_neg (fun z => hd z.2)]
        rfl
    · rw [if_neg hc, if_neg (fun z => hc z.1)]
      rfl
  · have b7 := h.w.n7.2
    have key : ∀ (p : Prop) [Decidable p], (p → (0 ≤ x ∧ x < ai S 198 4)) → ∃ r S2, f_X11_inClass_L22 F S' 197 x y (bI p) 197 = some (r, S2) ∧ Eqv S' S2 ∧ al S2 = al S' ∧ si S2 1000 197 = (if ¬ p then 1 else 0) ∧ (p → r = livA (ai S 198) x.toNatClampNeg y 0) := by
      intro p _ hv
      refine ⟨if p then livA (ai S 198) x.toNatClampNeg y 0 else 0, _, ?_, eqv_thr S' (if ¬ p then 1 else 0), rfl, th0 _ _, fun hp => if_pos hp⟩
      unfold f_X11_inClass_L22
      rw [e_passes, ob_some]
      simp only [lt_eq, ne_bI]
      by_cases hp : p
      · rw [if_pos hp, if_pos hp]
        obtain ⟨u, hu, hu2, rfl⟩ := ixU h (hv hp)
        have hx := fx_thr h'.fx (if ¬ p then 1 else 0)
        have aT : ai (ui S' 1000 197 (if ¬ p then 1 else 0)) 198 = ai S 198 := e.net
        generalize ui S' 1000 197 (if ¬ p then 1 else 0) = T at hx aT
        rw [nI_clamp (by omega), ← aT]
        have q7 : ai T 198 7 = nI (kN (ai T 198) 7) := by rw [aT]; exact h.w.n7.1
        have b7' : kN (ai T 198) 7 ≤ 120 := by rw [aT]; exact b7
        have cl : ∀ k, ai T 198 (1171 + 3 * (10 * k + u) + 1) = clN (ai T 198) k u := fun k => by unfold clN; rw [show 1171 + 3 * (10 * k + u) + 1 = 1172 + 3 * (10 * k + u) by omega]
        unfold livA
        refine loopR0 (fun fu k a => f_X11_inClass_L35 F fu T 197 (nI u) y a (nI k)) (kN (ai T 198) 7) _ (fun a => (a, T)) 0 (by omega) (fun fu a => ?_) (fun fu k a hk => ?_)
        · simp (disch := first | assumption | omega) only [ob_some, lt_eq, sm_l, sm_r, os_s, os_n, cki_nI, cki_0, cki_1, ck_bI, nI_clamp, cl0, cl1, nI_add, nI_mul, nI_1, nI_a0, nI_0a, nI_1a, nI_1m, aL2, La2, mL2, cL2, kL2, aL3, La3, mL3, cL3, kL3, aL4, La4, mL4, cL4, kL4, aL5, La5, mL5, cL5, kL5, aL6, La6, mL6, cL6, kL6, aL7, La7, mL7, cL7, kL7, aL8, La8, mL8, cL8, kL8, aL9, La9, mL9, cL9, kL9, aL10, La10, mL10, cL10, kL10, aL11, La11, mL11, cL11, kL11, aL12, La12, mL12, cL12, kL12, aL13, La13, mL13, cL13, kL13, aL14, La14, mL14, cL14, kL14, aL15, La15, mL15, cL15, kL15, aL16, La16, mL16, cL16, kL16, aL20, La20, mL20, cL20, kL20, aL21, La21, mL21, cL21, kL21, aL24, La24, mL24, cL24, kL24, aL27, La27, mL27, cL27, kL27, aL30, La30, mL30, cL30, kL30, aL31, La31, mL31, cL31, kL31, aL32, La32, mL32, cL32, kL32, aL48, La48, mL48, cL48, kL48, aL60, La60, mL60, cL60, kL60, aL83, La83, mL83, cL83, kL83, aL97, La97, mL97, cL97, kL97, aL99, La99, mL99, cL99, kL99, aL120, La120, mL120, cL120, kL120, aL122, La122, mL122, cL122, kL122, aL124, La124, mL124, cL124, kL124, aL163, La163, mL163, cL163, kL163, aL177, La177, mL177, cL177, kL177, aL200, La200, mL200, cL200, kL200, aL205, La205, mL205, cL205, kL205, aL255, La255, mL255, cL255, kL255, aL331, La331, mL331, cL331, kL331, aL480, La480, mL480, cL480, kL480, aL999, La999, mL999, cL999, kL999, aL1171, La1171, mL1171, cL1171, kL1171, aL1200, La1200, mL1200, cL1200, kL1200, aL2000, La2000, mL2000, cL2000, kL2000, aL4771, La4771, mL4771, cL4771, kL4771, aL6211, La6211, mL6211, cL6211, kL6211, aL6214, La6214, mL6214, cL6214, kL6214, aL6391, La6391, mL6391, cL6391, kL6391, aL8000, La8000, mL8000, cL8000, kL8000, aL9999, La9999, mL9999, cL9999, kL9999, aL20000, La20000, mL20000, cL20000, kL20000, aL96000, La96000, mL96000, cL96000, kL96000, nI_leI, nI_ltI, ne_bI, eq_bI, if_pos, if_neg, f_X11_inClass_L35, hx.r1001_197, hx.l198, q7]
        · simp (disch := first | assumption | omega) only [ob_some, lt_eq, sm_l, sm_r, os_s, os_n, cki_nI, cki_0, cki_1, ck_bI, nI_clamp, cl0, cl1, nI_add, nI_mul, nI_1, nI_a0, nI_0a, nI_1a, nI_1m, aL2, La2, mL2, cL2, kL2, aL3, La3, mL3, cL3, kL3, aL4, La4, mL4, cL4, kL4, aL5, La5, mL5, cL5, kL5, aL6, La6, mL6, cL6, kL6, aL7, La7, mL7, cL7, kL7, aL8, La8, mL8, cL8, kL8, aL9, La9, mL9, cL9, kL9, aL10, La10, mL10, cL10, kL10, aL11, La11, mL11, cL11, kL11, aL12, La12, mL12, cL12, kL12, aL13, La13, mL13, cL13, kL13, aL14, La14, mL14, cL14, kL14, aL15, La15, mL15, cL15, kL15, aL16, La16, mL16, cL16, kL16, aL20, La20, mL20, cL20, kL20, aL21, La21, mL21, cL21, kL21, aL24, La24, mL24, cL24, kL24, aL27, La27, mL27, cL27, kL27, aL30, La30, mL30, cL30, kL30, aL31, La31, mL31, cL31, kL31, aL32, La32, mL32, cL32, kL32, aL48, La48, mL48, cL48, kL48, aL60, La60, mL60, cL60, kL60, aL83, La83, mL83, cL83, kL83, aL97, La97, mL97, cL97, kL97, aL99, La99, mL99, cL99, kL99, aL120, La120, mL120, cL120, kL120, aL122, La122, mL122, cL122, kL122, aL124, La124, mL124, cL124, kL124, aL163, La163, mL163, cL163, kL163, aL177, La177, mL177, cL177, kL177, aL200, La200, mL200, cL200, kL200, aL205, La205, mL205, cL205, kL205, aL255, La255, mL255, cL255, kL255, aL331, La331, mL331, cL331, kL331, aL480, La480, mL480, cL480, kL480, aL999, La999, mL999, cL999, kL999, aL1171, La1171, mL1171, cL1171, kL1171, aL1200, La1200, mL1200, cL1200, kL1200, aL2000, La2000, mL2000, cL2000, kL2000, aL4771, La4771, mL4771, cL4771, kL4771, aL6211, La6211, mL6211, cL6211, kL6211, aL6214, La6214, mL6214, cL6214, kL6214, aL6391, La6391, mL6391, cL6391, kL6391, aL8000, La8000, mL8000, cL8000, kL8000, aL9999, La9999, mL9999, cL9999, kL9999, aL20000, La20000, mL20000, cL20000, kL20000, aL96000, La96000, mL96000, cL96000, kL96000, nI_leI, nI_ltI, ne_bI, eq_bI, f_X11_inClass_L35, f_X11_inClass_L79, f_X11_inClass_L80, hx.r1001_197, hx.l198, q7, m_isLive hx (by omega : k < 120) hu2, m_refAt, cl, Int32.add_zero]
          rw [if_neg (by omega)]
          by_cases h1 : stN (ai T 198) k u = 0
          · simp only [if_pos h1, if_neg (show ¬ ¬ stN (ai T 198) k u = 0 from fun z => z h1)]
            by_cases h2 : clN (ai T 198) k u = y
            · simp only [if_neg (show ¬ ¬ clN (ai T 198) k u = y from fun z => z h2)]
            · simp only [if_pos h2]
          · simp only [if_neg h1, if_pos h1]
      · rw [if_neg hp, if_neg hp]
    unfold f_X11_inClass f_X11_inClass_L21
    rw [e_isUser h', ob_some, e.net]
    simp only [lt_eq, eq_bI]
    by_cases hc : 0 ≤ x ∧ x < ai S 198 4
    · rw [if_pos hc, e_isClass h', ob_some, e.net]
      simp only [eq_bI]
      have k2 := key (0 ≤ y ∧ y < ai S 198 3) (fun _ => hc)
      by_cases hd : 0 ≤ y ∧ y < ai S 198 3
      · rw [if_pos hd]
        rw [bI_t hd] at k2
        obtain ⟨r, S2, a1, a2, a3, a4, a5⟩ := k2
        exact ⟨r, S2, a1, a2, a3, by rw [a4, if_neg (fun z => z hd), if_neg (fun z => z ⟨hc, hd⟩)], fun _ => a5 hd⟩
      · rw [if_neg hd]
        rw [bI_f hd] at k2
        obtain ⟨r, S2, a1, a2, a3, a4, a5⟩ := k2
        exact ⟨r, S2, a1, a2, a3, by rw [a4, if_pos hd, if_pos (fun z => hd z.2)], fun z => absurd z.2 hd⟩
    · rw [if_neg hc]
      have k2 := key False (fun z => absurd z id)
      rw [bI_f id] at k2
      obtain ⟨r, S2, a1, a2, a3, a4, a5⟩ := k2
      exact ⟨r, S2, a1, a2, a3, by rw [a4, if_pos id, if_pos (fun z => hc z.1)], fun z => absurd z.1 hc⟩
theorem ok_42 (hF : 100000 ≤ F) (h : Rel S n) (hi : ∀ k : Nat, k < 6 → vp_in (i + nI k) L) : Ok (f_law42 F xs L S n 0 197 210 211 i) := by
  have h1 : vp_in (i + 1) L := hi 1 (by omega)
  unfold f_law42 f_L_isActive f_L_isActive_L15
  simp only [cki_t h1]
  generalize xs (Int32.toNatClampNeg (i + 1)) = x
  refine askZ h (fm := fun S => f_X11_isActive F S 197 x) (0 ≤ x ∧ x < ai S 198 6) (ai S 198 (208 + 21 * x.toNatClampNeg) = 1) 4 1 ?_ rfl (by decide) (fun S' h' e => ?_)
  · unfold f_X10_isActive
    rw [e_needHold h, ob_some]
    by_cases hc : 0 ≤ x ∧ x < ai S 198 6
    · obtain ⟨k, hk, hk2, rfl⟩ := ixH h hc
      obtain ⟨act, a1, a2, a3⟩ := h.c0.ac
      rw [if_pos hc, if_pos hc, nI_clamp (by omega)]
      simp only [lt_eq, sm_r, h.fx.r905_0, ob_some, a1]
      rw [e_hasBit F S (by omega) (by omega), ob_some]
      simp only []
      rw [bI_congr (q := ai S 198 (208 + 21 * k) = 1) ⟨fun z => ((a3 k hk2).mp z).2, fun z => (a3 k hk2).mpr ⟨hk, z⟩⟩, ck_t (bI01 _)]
    · rw [if_neg hc, if_neg hc]
      rfl
  · refine mdl1 (F := F) h' (0 ≤ x ∧ x < ai S 198 6) _ (chk := f_X11_isHold F S' 197 x) (body := fun S6 => Option.bind (f_X11_holdValue F S6 197 x 3) fun z10 => lt z10.1 fun r12 => lt z10.2 fun S11 => if ¬ r12 = 1 then (some (0, S11)) else (some (1, S11))) rfl (by rw [e_isHold h', e.net]) (fun hc T ht hx w => noW ?_)
    obtain ⟨k, hk, hk2, rfl⟩ := ixH h hc
    rw [show (3 : Int32) = nI 3 from rfl, e_hld hx (by omega), ob_some, ht, e.net, nI_clamp (by omega), show 205 + 21 * k + 3 = 208 + 21 * k by omega]
    simp only [lt_eq]
    by_cases z : ai S 198 (208 + 21 * k) = 1
    · rw [if_neg (fun y => y z), bI_t z]
    · rw [if_pos z, bI_f z]
theorem e_valAt {p : Nat} {N : Nat → Int32} (hs : SpF S p) (hj : CJ S p N) {k w : Nat} (hk : k < kN N 9) (hb : kN N 9 ≤ 60) (hw : w < 3) : f_X2_valueAt F S (p + 13) (nI k) (nI w) = some (N (6211 + 3 * k + w), S) := by
  obtain ⟨-, f, hf, f1, f2⟩ := hj
  obtain ⟨g1, g2, g3⟩ := f2 k hk
  have l14 := hs.l14
  have l15 := hs.l15
  have l16 := hs.l16
  have md : (f + k) % 60 < 60 := Nat.mod_lt _ (by omega)
  unfold f_X2_valueAt
  rw [f1, nI_add, lt_eq, mod60 (by omega)]
  rcases (show w = 0 ∨ w = 1 ∨ w = 2 by omega) with rfl | rfl | rfl
  · rw [if_neg (by decide), hs.r200_13, ob_some, e_at (by omega) (by omega), g1]
    rfl
  · rw [if_pos (by decide), if_neg (by decide), hs.r201_13, ob_some, e_at (by omega) (by omega), g2, show 6211 + 3 * k + 1 = 6212 + 3 * k by omega]
    rfl
  · rw [if_pos (by decide), if_pos (by decide), hs.r202_13, ob_some, e_at (by omega) (by omega), g3, show 6211 + 3 * k + 2 = 6213 + 3 * k by omega]
    rfl
theorem ok_53 (hF : 100000 ≤ F) (h : Rel S n) (hi : ∀ k : Nat, k < 6 → vp_in (i + nI k) L) : Ok (f_law53 F xs L S n 0 197 210 211 i) := by
  have h1 : vp_in (i + 1) L := hi 1 (by omega)
  have h2 : vp_in (i + 2) L := hi 2 (by omega)
  unfold f_law53 f_L_event
  simp only [cki_t h1, cki_t h2]
  generalize xs (Int32.toNatClampNeg (i + 1)) = x
  generalize xs (Int32.toNatClampNeg (i + 2)) = y
  have b9 := h.w.n9.2
  have q9 := h.w.n9.1
  have s9 : si S 204 40 = nI (kN (ai S 198) 9) := h.cl.cj.1.trans q9
  refine askC h (fm := fun S => f_X11_event F S 197 x y) (0 ≤ x ∧ x < nI (kN (ai S 198) 9)) (0 ≤ y ∧ y < nI 3) (ai S 198 (6211 + 3 * x.toNatClampNeg + y.toNatClampNeg)) 4 2 S ?_ (Eqv.rf S) rfl rfl (fun S' h' e => ?_)
  · unfold f_X10_event f_X10_event_L18
    by_cases c1 : x < 0
    · rw [if_pos c1, if_neg (fun z => (le_nlt.mp z.1) c1)]
    rw [if_neg c1, h.fx.r905_0, ob_some, h.fx.sp27.r711_0, ob_some, s9]
    by_cases c2 : x < nI (kN (ai S 198) 9)
    · rw [if_pos c2, if_pos ⟨le_nlt.mpr c1, c2⟩, show (2 : Int32) = nI 2 from rfl, e_needWhat y 2 (by omega), ob_some, lt_eq]
      by_cases hd : 0 ≤ y ∧ y < nI 3
      · obtain ⟨k, hk, rfl⟩ := ix (by omega) ⟨le_nlt.mpr c1, c2⟩
        obtain ⟨w, hw, rfl⟩ := ix (by omega) hd
        rw [if_pos hd, if_pos hd, sm_r, nI_clamp (by omega), nI_clamp (by omega)]
        simp only [h.fx.r905_0, h.fx.sp27.r711_0, ob_some]
        rw [e_valAt h.fx.sp27 h.cl.cj hk b9 hw]
        rfl
      · rw [if_neg hd, if_neg hd]
        rfl
    · rw [if_neg c2, if_neg (fun z => c2 z.2)]
  · have q9' : ai S' 198 9 = nI (kN (ai S 198) 9) := by rw [e.net]; exact q9
    refine mdl2 (F := F) h' (0 ≤ x ∧ x < nI (kN (ai S 198) 9)) (0 ≤ y ∧ y < nI 3) _ (fm := f_X11_event F S' 197 x y) (chk := some (bI (0 ≤ x ∧ x < nI (kN (ai S 198) 9)), S')) (chk2 := fun S2 => f_X11_in F S2 y.toInt64 0 2) (body := fun S12 => Option.bind (sr S12 1001 197) fun j16 => cki ((6211 + (3 * x)) + y) (ln S12 j16) <| some (ai S12 j16 (Int32.toNatClampNeg ((6211 + (3 * x)) + y)), S12)) ?_ rfl (e_inK F S' y 2 (by omega)) (fun hc hd T ht hx w => noW ?_)
    · unfold f_X11_event
      rw [h'.fx.r1001_197, ob_some, h'.fx.l198, show (9 : Int32) = nI 9 from rfl, cki_nI (by omega) (by omega), nI_clamp (by omega), q9', e_in0 F S' x (by omega)]
    · obtain ⟨k, hk, rfl⟩ := ix (by omega) hc
      obtain ⟨w, hw, rfl⟩ := ix (by omega) hd
      simp (disch := first | assumption | omega) only [ob_some, lt_eq, sm_l, sm_r, os_s, os_n, cki_nI, cki_0, cki_1, ck_bI, nI_clamp, cl0, cl1, nI_add, nI_mul, nI_1, nI_a0, nI_0a, nI_1a, nI_1m, aL2, La2, mL2, cL2, kL2, aL3, La3, mL3, cL3, kL3, aL4, La4, mL4, cL4, kL4, aL5, La5, mL5, cL5, kL5, aL6, La6, mL6, cL6, kL6, aL7, La7, mL7, cL7, kL7, aL8, La8, mL8, cL8, kL8, aL9, La9, mL9, cL9, kL9, aL10, La10, mL10, cL10, kL10, aL11, La11, mL11, cL11, kL11, aL12, La12, mL12, cL12, kL12, aL13, La13, mL13, cL13, kL13, aL14, La14, mL14, cL14, kL14, aL15, La15, mL15, cL15, kL15, aL16, La16, mL16, cL16, kL16, aL20, La20, mL20, cL20, kL20, aL21, La21, mL21, cL21, kL21, aL24, La24, mL24, cL24, kL24, aL27, La27, mL27, cL27, kL27, aL30, La30, mL30, cL30, kL30, aL31, La31, mL31, cL31, kL31, aL32, La32, mL32, cL32, kL32, aL48, La48, mL48, cL48, kL48, aL60, La60, mL60, cL60, kL60, aL83, La83, mL83, cL83, kL83, aL97, La97, mL97, cL97, kL97, aL99, La99, mL99, cL99, kL99, aL120, La120, mL120, cL120, kL120, aL122, La122, mL122, cL122, kL122, aL124, La124, mL124, cL124, kL124, aL163, La163, mL163, cL163, kL163, aL177, La177, mL177, cL177, kL177, aL200, La200, mL200, cL200, kL200, aL205, La205, mL205, cL205, kL205, aL255, La255, mL255, cL255, kL255, aL331, La331, mL331, cL331, kL331, aL480, La480, mL480, cL480, kL480, aL999, La999, mL999, cL999, kL999, aL1171, La1171, mL1171, cL1171, kL1171, aL1200, La1200, mL1200, cL1200, kL1200, aL2000, La2000, mL2000, cL2000, kL2000, aL4771, La4771, mL4771, cL4771, kL4771, aL6211, La6211, mL6211, cL6211, kL6211, aL6214, La6214, mL6214, cL6214, kL6214, aL6391, La6391, mL6391, cL6391, kL6391, aL8000, La8000, mL8000, cL8000, kL8000, aL9999, La9999, mL9999, cL9999, kL9999, aL20000, La20000, mL20000, cL20000, kL20000, aL96000, La96000, mL96000, cL96000, kL96000, nI_leI, nI_ltI, ne_bI, eq_bI, if_pos, if_neg, hx.r1001_197, hx.l198, ht, e.net]
theorem ok_54 (hF : 100000 ≤ F) (h : Rel S n) (hi : ∀ k : Nat, k < 6 → vp_in (i + nI k) L) : Ok (f_law54 F xs L S n 0 197 210 211 i) := by
  have h1 : vp_in (i + 1) L := hi 1 (by omega)
  unfold f_law54 f_L_eventsOf
  simp only [cki_t h1]
  generalize xs (Int32.toNatClampNeg (i + 1)) = x
  have b9 := h.w.n9.2
  have q9 := h.w.n9.1
  have s9 : si S 204 (27 + 13) = nI (kN (ai S 198) 9) := h.cl.cj.1.trans q9
  refine askB h (fm := fun S => f_X11_eventsOf F S 197 x) (1 ≤ x ∧ x ≤ 10) (runN (fun k a => if ¬ ai S 198 (6211 + 3 * k + 1) = x then a else a + 1) (kN (ai S 198) 9) 0 0) 2 1 S ?_ (Eqv.rf S) rfl (by decide) (fun S' h' e => ?_)
  · unfold f_X10_eventsOf f_X10_eventsOf_L11
    by_cases c1 : x < 1
    · rw [if_pos c1, if_neg (fun z => (le_nlt.mp z.1) c1)]
    rw [if_neg c1]
    by_cases c2 : x ≤ 10
    · rw [if_pos c2, if_pos ⟨le_nlt.mpr c1, c2⟩]
      refine loopR0 (fun fu k a => f_X10_eventsOf_L26 F fu S 0 x a (nI k)) (kN (ai S 198) 9) _ (fun a => (.inr a, S)) 0 (by omega) (fun fu a => ?_) (fun fu k a hk => ?_)
      · simp (disch := first | assumption | omega) only [ob_some, lt_eq, sm_l, sm_r, os_s, os_n, cki_nI, cki_0, cki_1, ck_bI, nI_clamp, cl0, cl1, nI_add, nI_mul, nI_1, nI_a0, nI_0a, nI_1a, nI_1m, aL2, La2, mL2, cL2, kL2, aL3, La3, mL3, cL3, kL3, aL4, La4, mL4, cL4, kL4, aL5, La5, mL5, cL5, kL5, aL6, La6, mL6, cL6, kL6, aL7, La7, mL7, cL7, kL7, aL8, La8, mL8, cL8, kL8, aL9, La9, mL9, cL9, kL9, aL10, La10, mL10, cL10, kL10, aL11, La11, mL11, cL11, kL11, aL12, La12, mL12, cL12, kL12, aL13, La13, mL13, cL13, kL13, aL14, La14, mL14, cL14, kL14, aL15, La15, mL15, cL15, kL15, aL16, La16, mL16, cL16, kL16, aL20, La20, mL20, cL20, kL20, aL21, La21, mL21, cL21, kL21, aL24, La24, mL24, cL24, kL24, aL27, La27, mL27, cL27, kL27, aL30, La30, mL30, cL30, kL30, aL31, La31, mL31, cL31, kL31, aL32, La32, mL32, cL32, kL32, aL48, La48, mL48, cL48, kL48, aL60, La60, mL60, cL60, kL60, aL83, La83, mL83, cL83, kL83, aL97, La97, mL97, cL97, kL97, aL99, La99, mL99, cL99, kL99, aL120, La120, mL120, cL120, kL120, aL122, La122, mL122, cL122, kL122, aL124, La124, mL124, cL124, kL124, aL163, La163, mL163, cL163, kL163, aL177, La177, mL177, cL177, kL177, aL200, La200, mL200, cL200, kL200, aL205, La205, mL205, cL205, kL205, aL255, La255, mL255, cL255, kL255, aL331, La331, mL331, cL331, kL331, aL480, La480, mL480, cL480, kL480, aL999, La999, mL999, cL999, kL999, aL1171, La1171, mL1171, cL1171, kL1171, aL1200, La1200, mL1200, cL1200, kL1200, aL2000, La2000, mL2000, cL2000, kL2000, aL4771, La4771, mL4771, cL4771, kL4771, aL6211, La6211, mL6211, cL6211, kL6211, aL6214, La6214, mL6214, cL6214, kL6214, aL6391, La6391, mL6391, cL6391, kL6391, aL8000, La8000, mL8000, cL8000, kL8000, aL9999, La9999, mL9999, cL9999, kL9999, aL20000, La20000, mL20000, cL20000, kL20000, aL96000, La96000, mL96000, cL96000, kL96000, nI_leI, nI_ltI, ne_bI, eq_bI, if_pos, if_neg, f_X10_eventsOf_L26, h.fx.r905_0, h.fx.sp27.r711_0, s9]
      · have v := e_valAt (F := F) h.fx.sp27 h.cl.cj hk b9 (w := 1) (by omega)
        rw [show nI 1 = (1 : Int32) from rfl] at v
        simp (disch := first | assumption | omega) only [ob_some, lt_eq, sm_l, sm_r, os_s, os_n, cki_nI, cki_0, cki_1, ck_bI, nI_clamp, cl0, cl1, nI_add, nI_mul, nI_1, nI_a0, nI_0a, nI_1a, nI_1m, aL2, La2, mL2, cL2, kL2, aL3, La3, mL3, cL3, kL3, aL4, La4, mL4, cL4, kL4, aL5, La5, mL5, cL5, kL5, aL6, La6, mL6, cL6, kL6, aL7, La7, mL7, cL7, kL7, aL8, La8, mL8, cL8, kL8, aL9, La9, mL9, cL9, kL9, aL10, La10, mL10, cL10, kL10, aL11, La11, mL11, cL11, kL11, aL12, La12, mL12, cL12, kL12, aL13, La13, mL13, cL13, kL13, aL14, La14, mL14, cL14, kL14, aL15, La15, mL15, cL15, kL15, aL16, La16, mL16, cL16, kL16, aL20, La20, mL20, cL20, kL20, aL21, La21, mL21, cL21, kL21, aL24, La24, mL24, cL24, kL24, aL27, La27, mL27, cL27, kL27, aL30, La30, mL30, cL30, kL30, aL31, La31, mL31, cL31, kL31, aL32, La32, mL32, cL32, kL32, aL48, La48, mL48, cL48, kL48, aL60, La60, mL60, cL60, kL60, aL83, La83, mL83, cL83, kL83, aL97, La97, mL97, cL97, kL97, aL99, La99, mL99, cL99, kL99, aL120, La120, mL120, cL120, kL120, aL122, La122, mL122, cL122, kL122, aL124, La124, mL124, cL124, kL124, aL163, La163, mL163, cL163, kL163, aL177, La177, mL177, cL177, kL177, aL200, La200, mL200, cL200, kL200, aL205, La205, mL205, cL205, kL205, aL255, La255, mL255, cL255, kL255, aL331, La331, mL331, cL331, kL331, aL480, La480, mL480, cL480, kL480, aL999, La999, mL999, cL999, kL999, aL1171, La1171, mL1171, cL1171, kL1171, aL1200, La1200, mL1200, cL1200, kL1200, aL2000, La2000, mL2000, cL2000, kL2000, aL4771, La4771, mL4771, cL4771, kL4771, aL6211, La6211, mL6211, cL6211, kL6211, aL6214, La6214, mL6214, cL6214, kL6214, aL6391, La6391, mL6391, cL6391, kL6391, aL8000, La8000, mL8000, cL8000, kL8000, aL9999, La9999, mL9999, cL9999, kL9999, aL20000, La20000, mL20000, cL20000, kL20000, aL96000, La96000, mL96000, cL96000, kL96000, nI_leI, nI_ltI, ne_bI, eq_bI, f_X10_eventsOf_L26, f_X10_eventsOf_L59, h.fx.r905_0, h.fx.sp27.r711_0, s9, v]
        rw [if_neg (by omega)]
        split
        · rfl
        · rfl
    · rw [if_neg c2, if_neg (fun z => c2 z.2)]
  · refine mdl1n (F := F) h' (1 ≤ x ∧ x ≤ 10) _ (chk := f_X11_in F S' x.toInt64 1 10) (body := fun T => f_X11_eventsOf_L22 F F T 197 x 0 0) rfl (e_in F S' x 1 10) (fun hc T ht hx w => noW ?_)
    have aT : ai T 198 = ai S 198 := by rw [ht, e.net]
    refine loopR0 (fun fu k a => f_X11_eventsOf_L22 F fu T 197 x a (nI k)) (kN (ai S 198) 9) _ (fun a => (a, T)) 0 (by omega) (fun fu a => ?_) (fun fu k a hk => ?_)
    · simp (disch := first | assumption | omega) only [ob_some, lt_eq, sm_l, sm_r, os_s, os_n, cki_nI, cki_0, cki_1, ck_bI, nI_clamp, cl0, cl1, nI_add, nI_mul, nI_1, nI_a0, nI_0a, nI_1a, nI_1m, aL2, La2, mL2, cL2, kL2, aL3, La3, mL3, cL3, kL3, aL4, La4, mL4, cL4, kL4, aL5, La5, mL5, cL5, kL5, aL6, La6, mL6, cL6, kL6, aL7, La7, mL7, cL7, kL7, aL8, La8, mL8, cL8, kL8, aL9, La9, mL9, cL9, kL9, aL10, La10, mL10, cL10, kL10, aL11, La11, mL11, cL11, kL11, aL12, La12, mL12, cL12, kL12, aL13, La13, mL13, cL13, kL13, aL14, La14, mL14, cL14, kL14, aL15, La15, mL15, cL15, kL15, aL16, La16, mL16, cL16, kL16, aL20, La20, mL20, cL20, kL20, aL21, La21, mL21, cL21, kL21, aL24, La24, mL24, cL24, kL24, aL27, La27, mL27, cL27, kL27, aL30, La30, mL30, cL30, kL30, aL31, La31, mL31, cL31, kL31, aL32, La32, mL32, cL32, kL32, aL48, La48, mL48, cL48, kL48, aL60, La60, mL60, cL60, kL60, aL83, La83, mL83, cL83, kL83, aL97, La97, mL97, cL97, kL97, aL99, La99, mL99, cL99, kL99, aL120, La120, mL120, cL120, kL120, aL122, La122, mL122, cL122, kL122, aL124, La124, mL124, cL124, kL124, aL163, La163, mL163, cL163, kL163, aL177, La177, mL177, cL177, kL177, aL200, La200, mL200, cL200, kL200, aL205, La205, mL205, cL205, kL205, aL255, La255, mL255, cL255, kL255, aL331, La331, mL331, cL331, kL331, aL480, La480, mL480, cL480, kL480, aL999, La999, mL999, cL999, kL999, aL1171, La1171, mL1171, cL1171, kL1171, aL1200, La1200, mL1200, cL1200, kL1200, aL2000, La2000, mL2000, cL2000, kL2000, aL4771, La4771, mL4771, cL4771, kL4771, aL6211, La6211, mL6211, cL6211, kL6211, aL6214, La6214, mL6214, cL6214, kL6214, aL6391, La6391, mL6391, cL6391, kL6391, aL8000, La8000, mL8000, cL8000, kL8000, aL9999, La9999, mL9999, cL9999, kL9999, aL20000, La20000, mL20000, cL20000, kL20000, aL96000, La96000, mL96000, cL96000, kL96000, nI_leI, nI_ltI, ne_bI, eq_bI, if_pos, if_neg, f_X11_eventsOf_L22, hx.r1001_197, hx.l198, aT, q9]
    · simp (disch := first | assumption | omega) only [ob_some, lt_eq, sm_l, sm_r, os_s, os_n, cki_nI, cki_0, cki_1, ck_bI, nI_clamp, cl0, cl1, nI_add, nI_mul, nI_1, nI_a0, nI_0a, nI_1a, nI_1m, aL2, La2, mL2, cL2, kL2, aL3, La3, mL3, cL3, kL3, aL4, La4, mL4, cL4, kL4, aL5, La5, mL5, cL5, kL5, aL6, La6, mL6, cL6, kL6, aL7, La7, mL7, cL7, kL7, aL8, La8, mL8, cL8, kL8, aL9, La9, mL9, cL9, kL9, aL10, La10, mL10, cL10, kL10, aL11, La11, mL11, cL11, kL11, aL12, La12, mL12, cL12, kL12, aL13, La13, mL13, cL13, kL13, aL14, La14, mL14, cL14, kL14, aL15, La15, mL15, cL15, kL15, aL16, La16, mL16, cL16, kL16, aL20, La20, mL20, cL20, kL20, aL21, La21, mL21, cL21, kL21, aL24, La24, mL24, cL24, kL24, aL27, La27, mL27, cL27, kL27, aL30, La30, mL30, cL30, kL30, aL31, La31, mL31, cL31, kL31, aL32, La32, mL32, cL32, kL32, aL48, La48, mL48, cL48, kL48, aL60, La60, mL60, cL60, kL60, aL83, La83, mL83, cL83, kL83, aL97, La97, mL97, cL97, kL97, aL99, La99, mL99, cL99, kL99, aL120, La120, mL120, cL120, kL120, aL122, La122, mL122, cL122, kL122, aL124, La124, mL124, cL124, kL124, aL163, La163, mL163, cL163, kL163, aL177, La177, mL177, cL177, kL177, aL200, La200, mL200, cL200, kL200, aL205, La205, mL205, cL205, kL205, aL255, La255, mL255, cL255, kL255, aL331, La331, mL331, cL331, kL331, aL480, La480, mL480, cL480, kL480, aL999, La999, mL999, cL999, kL999, aL1171, La1171, mL1171, cL1171, kL1171, aL1200, La1200, mL1200, cL1200, kL1200, aL2000, La2000, mL2000, cL2000, kL2000, aL4771, La4771, mL4771, cL4771, kL4771, aL6211, La6211, mL6211, cL6211, kL6211, aL6214, La6214, mL6214, cL6214, kL6214, aL6391, La6391, mL6391, cL6391, kL6391, aL8000, La8000, mL8000, cL8000, kL8000, aL9999, La9999, mL9999, cL9999, kL9999, aL20000, La20000, mL20000, cL20000, kL20000, aL96000, La96000, mL96000, cL96000, kL96000, nI_leI, nI_ltI, ne_bI, eq_bI, f_X11_eventsOf_L22, f_X11_eventsOf_L57, hx.r1001_197, hx.l198, aT, q9, Int32.add_zero]
      rw [if_neg (by omega)]
      split
      · rfl
      · rfl
theorem ok_58 (hF : 100000 ≤ F) (h : Rel S n) (hi : ∀ k : Nat, k < 6 → vp_in (i + nI k) L) : Ok (f_law58 F xs L S n 0 197 210 211 i) := by
  have h1 : vp_in (i + 1) L := hi 1 (by omega)
  unfold f_law58 f_L_outputByte
  simp only [cki_t h1]
  generalize xs (Int32.toNatClampNeg (i + 1)) = x
  obtain ⟨K, o1, o2, o3, o4⟩ := h.2.2.2.2.1
  refine askB h (fm := fun S => f_X11_outputByte F S 197 x) (0 ≤ x ∧ x < nI K) (ai S 209 x.toNatClampNeg) 3 1 S ?_ (Eqv.rf S) rfl (by decide) (fun S' h' e => ?_)
  · unfold f_X10_outputByte f_X10_outputByte_L15
    by_cases c1 : x < 0
    · rw [if_pos c1, if_neg (fun z => (le_nlt.mp z.1) c1)]
    rw [if_neg c1, h.fx.r901_0, ob_some, o2]
    by_cases c2 : x < nI K
    · obtain ⟨k, hk, rfl⟩ := ix (by omega) ⟨le_nlt.mpr c1, c2⟩
      have l := h.fx.l23
      rw [if_pos c2, if_pos ⟨le_nlt.mpr c1, c2⟩, ob_some, e_byteAt F h.fx.r0_22 o2 (by omega) (by omega) hk, ob_some, nI_clamp (by omega), (o4 k hk).1, and255 (o4 k hk).2]
      rfl
    · rw [if_neg c2, if_neg (fun z => c2 z.2)]
  · have o3' : si S' 1029 197 = nI K := (e.2.1 1029 197 (nF (by omega))).trans o3
    refine mdl1 (F := F) h' (0 ≤ x ∧ x < nI K) _ (chk := f_X11_in F S' x.toInt64 0 ((si S' 1029 197 - 1).toInt64)) (body := fun S6 => Option.bind (sr S6 1028 197) fun j10 => cki x (ln S6 j10) <| some (ai S6 j10 (Int32.toNatClampNeg x), S6)) rfl (by rw [o3', e_in0 F S' x (by omega)]) (fun hc T ht hx w => noW ?_)
    obtain ⟨k, hk, rfl⟩ := ix (by omega) hc
    have a9 : ai S' 209 = ai S 209 := e.2.2.1 209 (nA (by omega))
    simp (disch := first | assumption | omega) only [ob_some, lt_eq, sm_l, sm_r, os_s, os_n, cki_nI, cki_0, cki_1, ck_bI, nI_clamp, cl0, cl1, nI_add, nI_mul, nI_1, nI_a0, nI_0a, nI_1a, nI_1m, aL2, La2, mL2, cL2, kL2, aL3, La3, mL3, cL3, kL3, aL4, La4, mL4, cL4, kL4, aL5, La5, mL5, cL5, kL5, aL6, La6, mL6, cL6, kL6, aL7, La7, mL7, cL7, kL7, aL8, La8, mL8, cL8, kL8, aL9, La9, mL9, cL9, kL9, aL10, La10, mL10, cL10, kL10, aL11, La11, mL11, cL11, kL11, aL12, La12, mL12, cL12, kL12, aL13, La13, mL13, cL13, kL13, aL14, La14, mL14, cL14, kL14, aL15, La15, mL15, cL15, kL15, aL16, La16, mL16, cL16, kL16, aL20, La20, mL20, cL20, kL20, aL21, La21, mL21, cL21, kL21, aL24, La24, mL24, cL24, kL24, aL27, La27, mL27, cL27, kL27, aL30, La30, mL30, cL30, kL30, aL31, La31, mL31, cL31, kL31, aL32, La32, mL32, cL32, kL32, aL48, La48, mL48, cL48, kL48, aL60, La60, mL60, cL60, kL60, aL83, La83, mL83, cL83, kL83, aL97, La97, mL97, cL97, kL97, aL99, La99, mL99, cL99, kL99, aL120, La120, mL120, cL120, kL120, aL122, La122, mL122, cL122, kL122, aL124, La124, mL124, cL124, kL124, aL163, La163, mL163, cL163, kL163, aL177, La177, mL177, cL177, kL177, aL200, La200, mL200, cL200, kL200, aL205, La205, mL205, cL205, kL205, aL255, La255, mL255, cL255, kL255, aL331, La331, mL331, cL331, kL331, aL480, La480, mL480, cL480, kL480, aL999, La999, mL999, cL999, kL999, aL1171, La1171, mL1171, cL1171, kL1171, aL1200, La1200, mL1200, cL1200, kL1200, aL2000, La2000, mL2000, cL2000, kL2000, aL4771, La4771, mL4771, cL4771, kL4771, aL6211, La6211, mL6211, cL6211, kL6211, aL6214, La6214, mL6214, cL6214, kL6214, aL6391, La6391, mL6391, cL6391, kL6391, aL8000, La8000, mL8000, cL8000, kL8000, aL9999, La9999, mL9999, cL9999, kL9999, aL20000, La20000, mL20000, cL20000, kL20000, aL96000, La96000, mL96000, cL96000, kL96000, nI_leI, nI_ltI, ne_bI, eq_bI, if_pos, if_neg, hx.r1028_197, hx.l209, ht, a9]
end A
