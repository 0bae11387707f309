/-! tools for calls that ask -/
theorem Rel.w {S : St} {n : Nat} (h : Rel S n) : WB (ai S 198) (ai S 200) := h.cl.c0.wb
theorem Rel.c0 {S : St} {n : Nat} (h : Rel S n) : Cl0 S n 27 (ai S 198) (ai S 200) := h.cl.c0
theorem fx_thr {S : St} (h : FxF S) (v : Int32) : FxF (ui S 1000 197 v) := h.eqv (eqv_thr S v)
/-- the model's call behind one condition -/
theorem mdl1 {F : Nat} {S' : St} {n : Nat} (h' : Rel S' n) (p : Prop) [Decidable p] (v : Int32) {fm chk : Option (Int32 × St)} {body : St → Option (Int32 × St)}
    (hf : fm = Option.bind chk fun z1 => lt z1.1 fun r3 => lt z1.2 fun S2 => Option.bind (f_X11_passes F S2 197 r3) fun z5 => lt z5.1 fun r7 => lt z5.2 fun S6 => if r7 = 0 then (some (0, S6)) else body S6)
    (hc : chk = some (bI p, S')) (hb : p → ∀ T, ai T = ai S' → FxF T → WB (ai T 198) (ai T 200) → ∃ T', body T = some (v, T') ∧ Eqv T T' ∧ al T' = al T ∧ si T' 1000 197 = si T 1000 197) :
    ∃ r S2, fm = some (r, S2) ∧ Eqv S' S2 ∧ al S2 = al S' ∧ si S2 1000 197 = (if ¬ p then 1 else 0) ∧ (p → r = v) := by
  rw [hf, hc, ob_some]
  simp only [lt_eq]
  rw [e_passes, ob_some]
  simp only [eq_bI]
  by_cases q : p
  · rw [if_pos q]
    obtain ⟨T', h1, h2, h3, h4⟩ := hb q (ui S' 1000 197 (if ¬ p then 1 else 0)) rfl (fx_thr h'.fx _) h'.w
    exact ⟨v, T', h1, (eqv_thr S' _).tr h2, h3.trans rfl, h4.trans (th0 _ _), fun _ => rfl⟩
  · rw [if_neg q]
    exact ⟨0, _, rfl, eqv_thr S' _, rfl, th0 _ _, fun z => absurd z q⟩
theorem mdl1n {F : Nat} {S' : St} {n : Nat} (h' : Rel S' n) (p : Prop) [Decidable p] (v : Int32) {fm chk : Option (Int32 × St)} {body : St → Option (Int32 × St)}
    (hf : fm = Option.bind chk fun z1 => lt z1.1 fun r3 => lt z1.2 fun S2 => Option.bind (f_X11_passes F S2 197 r3) fun z5 => lt z5.1 fun r7 => lt z5.2 fun S6 => if ¬ r7 = 0 then body S6 else (some (0, S6)))
    (hc : chk = some (bI p, S')) (hb : p → ∀ T, ai T = ai S' → FxF T → WB (ai T 198) (ai T 200) → ∃ T', body T = some (v, T') ∧ Eqv T T' ∧ al T' = al T ∧ si T' 1000 197 = si T 1000 197) :
    ∃ r S2, fm = some (r, S2) ∧ Eqv S' S2 ∧ al S2 = al S' ∧ si S2 1000 197 = (if ¬ p then 1 else 0) ∧ (p → r = v) := by
  refine mdl1 (F := F) h' p v (body := body) (hf.trans ?_) hc hb
  subst hc
  simp only [ob_some, lt_eq, e_passes, eq_bI, ne_bI]
/-- .. behind two -/
theorem mdl2 {F : Nat} {S' : St} {n : Nat} (h' : Rel S' n) (p q : Prop) [Decidable p] [Decidable q] (v : Int32) {fm chk : Option (Int32 × St)} {chk2 : St → Option (Int32 × St)} {body : St → Option (Int32 × St)}
    (hf : fm = Option.bind chk fun z1 => lt z1.1 fun r3 => lt z1.2 fun S2 => Option.bind (chk2 S2) fun z5 => lt z5.1 fun r7 => lt z5.2 fun S6 => Option.bind (f_X11_passes2 F S6 197 r3 r7) fun z9 => lt z9.1 fun r11 => lt z9.2 fun S10 => if r11 = 0 then (some (0, S10)) else body S10)
    (hc : chk = some (bI p, S')) (hc2 : chk2 S' = some (bI q, S')) (hb : p → q → ∀ T, ai T = ai S' → FxF T → WB (ai T 198) (ai T 200) → ∃ T', body T = some (v, T') ∧ Eqv T T' ∧ al T' = al T ∧ si T' 1000 197 = si T 1000 197) :
    ∃ r S2, fm = some (r, S2) ∧ Eqv S' S2 ∧ al S2 = al S' ∧ si S2 1000 197 = (if ¬ p then 1 else if ¬ q then 2 else 0) ∧ (p → q → r = v) := by
  rw [hf, hc, ob_some]
  simp only [lt_eq]
  rw [hc2, ob_some, e_passes2, ob_some]
  simp only [eq_bI]
  by_cases z1 : p
  · by_cases z2 : q
    · rw [if_pos ⟨z1, z2⟩]
      obtain ⟨T', h1, h2, h3, h4⟩ := hb z1 z2 (ui S' 1000 197 (if ¬ p then 1 else if ¬ q then 2 else 0)) rfl (fx_thr h'.fx _) h'.w
      exact ⟨v, T', h1, (eqv_thr S' _).tr h2, h3.trans rfl, h4.trans (th0 _ _), fun _ _ => rfl⟩
    · rw [if_neg (fun y => z2 y.2)]
      exact ⟨0, _, rfl, eqv_thr S' _, rfl, th0 _ _, fun _ y => absurd y z2⟩
  · rw [if_neg (fun y => z1 y.1)]
    exact ⟨0, _, rfl, eqv_thr S' _, rfl, th0 _ _, fun y => absurd y z1⟩
theorem mdl2n {F : Nat} {S' : St} {n : Nat} (h' : Rel S' n) (p q : Prop) [Decidable p] [Decidable q] (v : Int32) {fm chk : Option (Int32 × St)} {chk2 : St → Option (Int32 × St)} {body : St → Option (Int32 × St)}
    (hf : fm = Option.bind chk fun z1 => lt z1.1 fun r3 => lt z1.2 fun S2 => Option.bind (chk2 S2) fun z5 => lt z5.1 fun r7 => lt z5.2 fun S6 => Option.bind (f_X11_passes2 F S6 197 r3 r7) fun z9 => lt z9.1 fun r11 => lt z9.2 fun S10 => if ¬ r11 = 0 then body S10 else (some (0, S10)))
    (hc : chk = some (bI p, S')) (hc2 : chk2 S' = some (bI q, S')) (hb : p → q → ∀ T, ai T = ai S' → FxF T → WB (ai T 198) (ai T 200) → ∃ T', body T = some (v, T') ∧ Eqv T T' ∧ al T' = al T ∧ si T' 1000 197 = si T 1000 197) :
    ∃ r S2, fm = some (r, S2) ∧ Eqv S' S2 ∧ al S2 = al S' ∧ si S2 1000 197 = (if ¬ p then 1 else if ¬ q then 2 else 0) ∧ (p → q → r = v) := by
  refine mdl2 (F := F) h' p q v (chk2 := chk2) (body := body) (hf.trans ?_) hc hc2 hb
  subst hc
  simp only [ob_some, lt_eq, hc2, e_passes2, eq_bI, ne_bI]
/-- a body that writes nothing -/
theorem noW {T : St} {o : Option (Int32 × St)} {v : Int32} (h : o = some (v, T)) : ∃ T', o = some (v, T') ∧ Eqv T T' ∧ al T' = al T ∧ si T' 1000 197 = si T 1000 197 := ⟨T, h, Eqv.rf T, rfl, rfl⟩
/-- the model's call that answers at once -/
theorem noT {S : St} {o : Option (Int32 × St)} {v : Int32} (h : o = some (v, ui S 1000 197 0)) : ∃ S2, o = some (v, S2) ∧ Eqv S S2 := ⟨_, h, eqv_thr S 0⟩
section Nd
variable {F : Nat} {S : St} {n : Nat}
theorem e_needRef (h : Rel S n) (x y : Int32) : f_X10_needReference F S 0 x y = some (if isR (ai S 198) x y then .inr () else .inl 4, S) := by
  unfold f_X10_needReference
  rw [h.fx.r905_0, ob_some, e_stateX h.c0 h.fx.sp27, ob_some]
  simp only [lt_eq]
  by_cases c : (0 ≤ x ∧ x < ai S 198 7) ∧ 0 ≤ y ∧ y < ai S 198 4
  · rw [if_pos c]
    by_cases d : stN (ai S 198) x.toNatClampNeg y.toNatClampNeg = -1
    · rw [if_neg (fun z => z d), if_neg (fun z => z.2.2 d)]
    · rw [if_pos d, if_pos ⟨c.1, c.2, d⟩]
  · rw [if_neg c, if_neg (fun z => z rfl), if_neg (fun z => c ⟨z.1, z.2.1⟩)]
theorem e_needPart (h : Rel S n) (x : Int32) : f_X10_needPart F S 0 x = some (if (0 ≤ x ∧ x < ai S 198 8) ∧ isN (ai S 198) x.toNatClampNeg = 1 then .inr () else .inl 4, S) := by
  unfold f_X10_needPart
  rw [h.fx.r905_0, ob_some, h.fx.sp27.r710_0, ob_some, e_isStoredX h.c0 h.fx.sp27, ob_some]
  simp only [lt_eq, ne_bI]
  by_cases c : (0 ≤ x ∧ x < ai S 198 8) ∧ isN (ai S 198) x.toNatClampNeg = 1
  · rw [if_pos c, if_pos c]
  · rw [if_neg c, if_neg c]
/-- arguments that are good -/
theorem ixM (h : Rel S n) {x : Int32} (c : 0 ≤ x ∧ x < ai S 198 7) : ∃ m, m < kN (ai S 198) 7 ∧ m < 120 ∧ x = nI m := by
  have b := h.w.n7.2
  rw [h.w.n7.1] at c
  obtain ⟨m, hm, e⟩ := ix (by omega) c
  exact ⟨m, hm, by omega, e⟩
theorem ixU (h : Rel S n) {x : Int32} (c : 0 ≤ x ∧ x < ai S 198 4) : ∃ m, m < kN (ai S 198) 4 ∧ m < 10 ∧ x = nI m := by
  have b := h.w.n4.2
  rw [h.w.n4.1] at c
  obtain ⟨m, hm, e⟩ := ix (by omega) c
  exact ⟨m, hm, by omega, e⟩
theorem ixC (h : Rel S n) {x : Int32} (c : 0 ≤ x ∧ x < ai S 198 3) : ∃ m, m < kN (ai S 198) 3 ∧ m < 8 ∧ x = nI m := by
  have b := h.w.n3.2
  rw [h.w.n3.1] at c
  obtain ⟨m, hm, e⟩ := ix (by omega) c
  exact ⟨m, hm, by omega, e⟩
theorem ixH (h : Rel S n) {x : Int32} (c : 0 ≤ x ∧ x < ai S 198 6) : ∃ m, m < kN (ai S 198) 6 ∧ m < 6 ∧ x = nI m := by
  have b := h.w.n6.2
  rw [h.w.n6.1] at c
  obtain ⟨m, hm, e⟩ := ix (by omega) c
  exact ⟨m, hm, by omega, e⟩
theorem ixP (h : Rel S n) {x : Int32} (c : (0 ≤ x ∧ x < ai S 198 8) ∧ isN (ai S 198) x.toNatClampNeg = 1) : ∃ m, m < kN (ai S 198) 8 ∧ m < 480 ∧ x = nI m ∧ isN (ai S 198) m = 1 := by
  have b := h.w.n8.2
  obtain ⟨c, d⟩ := c
  rw [h.w.n8.1] at c
  obtain ⟨m, hm, rfl⟩ := ix (by omega) c
  rw [nI_clamp (by omega)] at d
  exact ⟨m, hm, by omega, rfl, d⟩
theorem ixR (h : Rel S n) {x y : Int32} (c : isR (ai S 198) x y) : ∃ m u, m < kN (ai S 198) 7 ∧ m < 120 ∧ u < kN (ai S 198) 4 ∧ u < 10 ∧ x = nI m ∧ y = nI u := by
  obtain ⟨m, u, h1, h2, h3, h4, -⟩ := isR_of h.w c
  have b := h.w.n7.2
  have b4 := h.w.n4.2
  exact ⟨m, u, h1, by omega, h2, by omega, h3, h4⟩
end Nd
section LkT
variable {F : Nat} {S : St}
theorem m_ladder {B : Nat → Int32} (hx : FxF S) (w : WB (ai S 198) B) {c : Nat} (hc : c < kN (ai S 198) 3) (hF : 1000 ≤ F) : f_X11_ladder F S 197 (nI c) = some (ladN (ai S 198) c, S) := by
  have b3 := w.n3.2
  have g : ∀ (d c fu : Nat) (a : Int32), c < kN (ai S 198) 3 → c + 1 ≤ d → d < fu → f_X11_ladder_L4 F fu S 197 a (nI c) = some (ladF (ai S 198) d (nI c) a, S) := by
    intro d
    induction d with
    | zero => intro c fu a _ h; omega
    | succ d ih =>
      intro c fu a hc hcd hfu
      obtain ⟨fu, rfl⟩ : ∃ f', fu = f' + 1 := ⟨fu - 1, by omega⟩
      unfold ladF f_X11_ladder_L4
      rw [if_neg (nI_nm1 (by omega)), if_neg (nI_nm1 (by omega)), nI_clamp (by omega)]
      simp (disch := first | assumption | omega) only [ob_some, lt_eq, sm_l, sm_r, os_s, os_n, cki_nI, cki_0, cki_1, ck_bI, nI_clamp, cl0, cl1, nI_add, nI_mul, nI_1, nI_a0, nI_0a, nI_1a, nI_1m, aL2, La2, mL2, cL2, kL2, aL3, La3, mL3, cL3, kL3, aL4, La4, mL4, cL4, kL4, aL5, La5, mL5, cL5, kL5, aL6, La6, mL6, cL6, kL6, aL7, La7, mL7, cL7, kL7, aL8, La8, mL8, cL8, kL8, aL9, La9, mL9, cL9, kL9, aL10, La10, mL10, cL10, kL10, aL11, La11, mL11, cL11, kL11, aL12, La12, mL12, cL12, kL12, aL13, La13, mL13, cL13, kL13, aL14, La14, mL14, cL14, kL14, aL15, La15, mL15, cL15, kL15, aL16, La16, mL16, cL16, kL16, aL20, La20, mL20, cL20, kL20, aL21, La21, mL21, cL21, kL21, aL24, La24, mL24, cL24, kL24, aL27, La27, mL27, cL27, kL27, aL30, La30, mL30, cL30, kL30, aL31, La31, mL31, cL31, kL31, aL32, La32, mL32, cL32, kL32, aL48, La48, mL48, cL48, kL48, aL60, La60, mL60, cL60, kL60, aL83, La83, mL83, cL83, kL83, aL97, La97, mL97, cL97, kL97, aL99, La99, mL99, cL99, kL99, aL120, La120, mL120, cL120, kL120, aL122, La122, mL122, cL122, kL122, aL124, La124, mL124, cL124, kL124, aL163, La163, mL163, cL163, kL163, aL177, La177, mL177, cL177, kL177, aL200, La200, mL200, cL200, kL200, aL205, La205, mL205, cL205, kL205, aL255, La255, mL255, cL255, kL255, aL331, La331, mL331, cL331, kL331, aL480, La480, mL480, cL480, kL480, aL999, La999, mL999, cL999, kL999, aL1171, La1171, mL1171, cL1171, kL1171, aL1200, La1200, mL1200, cL1200, kL1200, aL2000, La2000, mL2000, cL2000, kL2000, aL4771, La4771, mL4771, cL4771, kL4771, aL6211, La6211, mL6211, cL6211, kL6211, aL6214, La6214, mL6214, cL6214, kL6214, aL6391, La6391, mL6391, cL6391, kL6391, aL8000, La8000, mL8000, cL8000, kL8000, aL9999, La9999, mL9999, cL9999, kL9999, aL20000, La20000, mL20000, cL20000, kL20000, aL96000, La96000, mL96000, cL96000, kL96000, nI_leI, nI_ltI, ne_bI, eq_bI, m_cls0 hx (by omega : c < 8), m_cls2 hx (by omega : c < 8)]
      by_cases z : ai S 198 (11 + 9 * c) = -1
      · rw [if_neg (fun q => q z), if_pos z]
      · rw [if_pos z, if_neg z]
        rcases (w.wC c hc).2.2 with q | q
        · rw [q, ladF_m1]
          obtain ⟨fu, rfl⟩ : ∃ f', fu = f' + 1 := ⟨fu - 1, by omega⟩
          unfold f_X11_ladder_L4
          rw [if_pos rfl]
        · rw [q.1.1]
          exact ih _ fu _ (by omega) (by omega) (by omega)
  unfold f_X11_ladder ladN
  exact g (c + 1) c F 0 hc (by omega) (by omega)
theorem m_usersSet {B : Nat → Int32} (hx : FxF S) (w : WB (ai S 198) B) {m : Nat} (hm : m < 120) (hF : 1000 ≤ F) : f_X11_readers_L18 F F S 197 (nI m) 0 0 = some (nI (bitsN (fun u => stN (ai S 198) m u = 0) (kN (ai S 198) 4)), S) := by
  have b4 := w.n4.2
  have q4 := w.n4.1
  rw [← or_run (P := fun u => stN (ai S 198) m u = 0) (fun u a => pif (stN (ai S 198) m u = 0) (a ||| (1 <<< (nI u &&& 31))) a) (by omega) (fun _ _ _ => rfl)]
  refine loopR0 (fun fu k a => f_X11_readers_L18 F fu S 197 (nI m) a (nI k)) (kN (ai S 198) 4) _ (fun a => (a, S)) 0 (by omega) (fun fu a => ?_) (fun fu k a hk => ?_)
  · simp (disch := first | assumption | omega) only [ob_some, lt_eq, sm_l, sm_r, os_s, os_n, cki_nI, cki_0, cki_1, ck_bI, nI_clamp, cl0, cl1, nI_add, nI_mul, nI_1, nI_a0, nI_0a, nI_1a, nI_1m, aL2, La2, mL2, cL2, kL2, aL3, La3, mL3, cL3, kL3, aL4, La4, mL4, cL4, kL4, aL5, La5, mL5, cL5, kL5, aL6, La6, mL6, cL6, kL6, aL7, La7, mL7, cL7, kL7, aL8, La8, mL8, cL8, kL8, aL9, La9, mL9, cL9, kL9, aL10, La10, mL10, cL10, kL10, aL11, La11, mL11, cL11, kL11, aL12, La12, mL12, cL12, kL12, aL13, La13, mL13, cL13, kL13, aL14, La14, mL14, cL14, kL14, aL15, La15, mL15, cL15, kL15, aL16, La16, mL16, cL16, kL16, aL20, La20, mL20, cL20, kL20, aL21, La21, mL21, cL21, kL21, aL24, La24, mL24, cL24, kL24, aL27, La27, mL27, cL27, kL27, aL30, La30, mL30, cL30, kL30, aL31, La31, mL31, cL31, kL31, aL32, La32, mL32, cL32, kL32, aL48, La48, mL48, cL48, kL48, aL60, La60, mL60, cL60, kL60, aL83, La83, mL83, cL83, kL83, aL97, La97, mL97, cL97, kL97, aL99, La99, mL99, cL99, kL99, aL120, La120, mL120, cL120, kL120, aL122, La122, mL122, cL122, kL122, aL124, La124, mL124, cL124, kL124, aL163, La163, mL163, cL163, kL163, aL177, La177, mL177, cL177, kL177, aL200, La200, mL200, cL200, kL200, aL205, La205, mL205, cL205, kL205, aL255, La255, mL255, cL255, kL255, aL331, La331, mL331, cL331, kL331, aL480, La480, mL480, cL480, kL480, aL999, La999, mL999, cL999, kL999, aL1171, La1171, mL1171, cL1171, kL1171, aL1200, La1200, mL1200, cL1200, kL1200, aL2000, La2000, mL2000, cL2000, kL2000, aL4771, La4771, mL4771, cL4771, kL4771, aL6211, La6211, mL6211, cL6211, kL6211, aL6214, La6214, mL6214, cL6214, kL6214, aL6391, La6391, mL6391, cL6391, kL6391, aL8000, La8000, mL8000, cL8000, kL8000, aL9999, La9999, mL9999, cL9999, kL9999, aL20000, La20000, mL20000, cL20000, kL20000, aL96000, La96000, mL96000, cL96000, kL96000, nI_leI, nI_ltI, ne_bI, eq_bI, if_pos, if_neg, f_X11_readers_L18, hx.r1001_197, hx.l198, q4]
  · simp (disch := first | assumption | omega) only [ob_some, lt_eq, sm_l, sm_r, os_s, os_n, cki_nI, cki_0, cki_1, ck_bI, nI_clamp, cl0, cl1, nI_add, nI_mul, nI_1, nI_a0, nI_0a, nI_1a, nI_1m, aL2, La2, mL2, cL2, kL2, aL3, La3, mL3, cL3, kL3, aL4, La4, mL4, cL4, kL4, aL5, La5, mL5, cL5, kL5, aL6, La6, mL6, cL6, kL6, aL7, La7, mL7, cL7, kL7, aL8, La8, mL8, cL8, kL8, aL9, La9, mL9, cL9, kL9, aL10, La10, mL10, cL10, kL10, aL11, La11, mL11, cL11, kL11, aL12, La12, mL12, cL12, kL12, aL13, La13, mL13, cL13, kL13, aL14, La14, mL14, cL14, kL14, aL15, La15, mL15, cL15, kL15, aL16, La16, mL16, cL16, kL16, aL20, La20, mL20, cL20, kL20, aL21, La21, mL21, cL21, kL21, aL24, La24, mL24, cL24, kL24, aL27, La27, mL27, cL27, kL27, aL30, La30, mL30, cL30, kL30, aL31, La31, mL31, cL31, kL31, aL32, La32, mL32, cL32, kL32, aL48, La48, mL48, cL48, kL48, aL60, La60, mL60, cL60, kL60, aL83, La83, mL83, cL83, kL83, aL97, La97, mL97, cL97, kL97, aL99, La99, mL99, cL99, kL99, aL120, La120, mL120, cL120, kL120, aL122, La122, mL122, cL122, kL122, aL124, La124, mL124, cL124, kL124, aL163, La163, mL163, cL163, kL163, aL177, La177, mL177, cL177, kL177, aL200, La200, mL200, cL200, kL200, aL205, La205, mL205, cL205, kL205, aL255, La255, mL255, cL255, kL255, aL331, La331, mL331, cL331, kL331, aL480, La480, mL480, cL480, kL480, aL999, La999, mL999, cL999, kL999, aL1171, La1171, mL1171, cL1171, kL1171, aL1200, La1200, mL1200, cL1200, kL1200, aL2000, La2000, mL2000, cL2000, kL2000, aL4771, La4771, mL4771, cL4771, kL4771, aL6211, La6211, mL6211, cL6211, kL6211, aL6214, La6214, mL6214, cL6214, kL6214, aL6391, La6391, mL6391, cL6391, kL6391, aL8000, La8000, mL8000, cL8000, kL8000, aL9999, La9999, mL9999, cL9999, kL9999, aL20000, La20000, mL20000, cL20000, kL20000, aL96000, La96000, mL96000, cL96000, kL96000, nI_leI, nI_ltI, ne_bI, eq_bI, f_X11_readers_L18, f_X11_readers_L45, hx.r1001_197, hx.l198, q4, m_isLive hx hm (by omega : k < 10), pif_e, Int32.or_zero]
    rw [if_neg (by omega)]
    split
    · rfl
    · rfl
theorem m_hiddenSet {B : Nat → Int32} (hx : FxF S) (w : WB (ai S 198) B) {m : Nat} (hm : m < 120) (hF : 1000 ≤ F) : f_X11_hidden_L18 F F S 197 (nI m) 0 0 = some (nI (bitsN (fun u => 1 ≤ stN (ai S 198) m u ∧ stN (ai S 198) m u ≤ 2) (kN (ai S 198) 4)), S) := by
  have b4 := w.n4.2
  have q4 := w.n4.1
  rw [← or_run (P := fun u => 1 ≤ stN (ai S 198) m u ∧ stN (ai S 198) m u ≤ 2) (fun u a => pif (1 ≤ stN (ai S 198) m u ∧ stN (ai S 198) m u ≤ 2) (a ||| (1 <<< (nI u &&& 31))) a) (by omega) (fun _ _ _ => rfl)]
  refine loopR0 (fun fu k a => f_X11_hidden_L18 F fu S 197 (nI m) a (nI k)) (kN (ai S 198) 4) _ (fun a => (a, S)) 0 (by omega) (fun fu a => ?_) (fun fu k a hk => ?_)
  · simp (disch := first | assumption | omega) only [ob_some, lt_eq, sm_l, sm_r, os_s, os_n, cki_nI, cki_0, cki_1, ck_bI, nI_clamp, cl0, cl1, nI_add, nI_mul, nI_1, nI_a0, nI_0a, nI_1a, nI_1m, aL2, La2, mL2, cL2, kL2, aL3, La3, mL3, cL3, kL3, aL4, La4, mL4, cL4, kL4, aL5, La5, mL5, cL5, kL5, aL6, La6, mL6, cL6, kL6, aL7, La7, mL7, cL7, kL7, aL8, La8, mL8, cL8, kL8, aL9, La9, mL9, cL9, kL9, aL10, La10, mL10, cL10, kL10, aL11, La11, mL11, cL11, kL11, aL12, La12, mL12, cL12, kL12, aL13, La13, mL13, cL13, kL13, aL14, La14, mL14, cL14, kL14, aL15, La15, mL15, cL15, kL15, aL16, La16, mL16, cL16, kL16, aL20, La20, mL20, cL20, kL20, aL21, La21, mL21, cL21, kL21, aL24, La24, mL24, cL24, kL24, aL27, La27, mL27, cL27, kL27, aL30, La30, mL30, cL30, kL30, aL31, La31, mL31, cL31, kL31, aL32, La32, mL32, cL32, kL32, aL48, La48, mL48, cL48, kL48, aL60, La60, mL60, cL60, kL60, aL83, La83, mL83, cL83, kL83, aL97, La97, mL97, cL97, kL97, aL99, La99, mL99, cL99, kL99, aL120, La120, mL120, cL120, kL120, aL122, La122, mL122, cL122, kL122, aL124, La124, mL124, cL124, kL124, aL163, La163, mL163, cL163, kL163, aL177, La177, mL177, cL177, kL177, aL200, La200, mL200, cL200, kL200, aL205, La205, mL205, cL205, kL205, aL255, La255, mL255, cL255, kL255, aL331, La331, mL331, cL331, kL331, aL480, La480, mL480, cL480, kL480, aL999, La999, mL999, cL999, kL999, aL1171, La1171, mL1171, cL1171, kL1171, aL1200, La1200, mL1200, cL1200, kL1200, aL2000, La2000, mL2000, cL2000, kL2000, aL4771, La4771, mL4771, cL4771, kL4771, aL6211, La6211, mL6211, cL6211, kL6211, aL6214, La6214, mL6214, cL6214, kL6214, aL6391, La6391, mL6391, cL6391, kL6391, aL8000, La8000, mL8000, cL8000, kL8000, aL9999, La9999, mL9999, cL9999, kL9999, aL20000, La20000, mL20000, cL20000, kL20000, aL96000, La96000, mL96000, cL96000, kL96000, nI_leI, nI_ltI, ne_bI, eq_bI, if_pos, if_neg, f_X11_hidden_L18, hx.r1001_197, hx.l198, q4]
  · simp (disch := first | assumption | omega) only [ob_some, lt_eq, sm_l, sm_r, os_s, os_n, cki_nI, cki_0, cki_1, ck_bI, nI_clamp, cl0, cl1, nI_add, nI_mul, nI_1, nI_a0, nI_0a, nI_1a, nI_1m, aL2, La2, mL2, cL2, kL2, aL3, La3, mL3, cL3, kL3, aL4, La4, mL4, cL4, kL4, aL5, La5, mL5, cL5, kL5, aL6, La6, mL6, cL6, kL6, aL7, La7, mL7, cL7, kL7, aL8, La8, mL8, cL8, kL8, aL9, La9, mL9, cL9, kL9, aL10, La10, mL10, cL10, kL10, aL11, La11, mL11, cL11, kL11, aL12, La12, mL12, cL12, kL12, aL13, La13, mL13, cL13, kL13, aL14, La14, mL14, cL14, kL14, aL15, La15, mL15, cL15, kL15, aL16, La16, mL16, cL16, kL16, aL20, La20, mL20, cL20, kL20, aL21, La21, mL21, cL21, kL21, aL24, La24, mL24, cL24, kL24, aL27, La27, mL27, cL27, kL27, aL30, La30, mL30, cL30, kL30, aL31, La31, mL31, cL31, kL31, aL32, La32, mL32, cL32, kL32, aL48, La48, mL48, cL48, kL48, aL60, La60, mL60, cL60, kL60, aL83, La83, mL83, cL83, kL83, aL97, La97, mL97, cL97, kL97, aL99, La99, mL99, cL99, kL99, aL120, La120, mL120, cL120, kL120, aL122, La122, mL122, cL122, kL122, aL124, La124, mL124, cL124, kL124, aL163, La163, mL163, cL163, kL163, aL177, La177, mL177, cL177, kL177, aL200, La200, mL200, cL200, kL200, aL205, La205, mL205, cL205, kL205, aL255, La255, mL255, cL255, kL255, aL331, La331, mL331, cL331, kL331, aL480, La480, mL480, cL480, kL480, aL999, La999, mL999, cL999, kL999, aL1171, La1171, mL1171, cL1171, kL1171, aL1200, La1200, mL1200, cL1200, kL1200, aL2000, La2000, mL2000, cL2000, kL2000, aL4771, La4771, mL4771, cL4771, kL4771, aL6211, La6211, mL6211, cL6211, kL6211, aL6214, La6214, mL6214, cL6214, kL6214, aL6391, La6391, mL6391, cL6391, kL6391, aL8000, La8000, mL8000, cL8000, kL8000, aL9999, La9999, mL9999, cL9999, kL9999, aL20000, La20000, mL20000, cL20000, kL20000, aL96000, La96000, mL96000, cL96000, kL96000, nI_leI, nI_ltI, ne_bI, eq_bI, f_X11_hidden_L18, f_X11_hidden_L45, hx.r1001_197, hx.l198, q4, m_isHidden hx hm (by omega : k < 10), pif_e, Int32.or_zero]
    rw [if_neg (by omega)]
    split
    · rfl
    · rfl
theorem e_usersSet {n p : Nat} {N B : Nat → Int32} (C : Cl0 S n p N B) (hs : SpF S p) {m : Nat} (hm : m < kN N 7) (lo hi : Int32) (hF : 1000 ≤ F) : f_X8_usersIn F S p (nI m) lo hi = some (nI (bitsN (fun u => lo ≤ stN N m u ∧ stN N m u ≤ hi) (kN N 4)), S) := by
  have b4 := C.wb.n4.2
  rw [e_usersIn C hs hm lo hi hF, or_run (P := fun u => lo ≤ stN N m u ∧ stN N m u ≤ hi) _ (by omega) (fun k a _ => ?_)]
  by_cases c1 : stN N m k < lo
  · rw [if_pos c1, pif_f (fun z => (le_nlt.mp z.1) c1)]
  rw [if_neg c1]
  by_cases c2 : hi < stN N m k
  · rw [if_pos c2, pif_f (fun z => (le_nlt.mp z.2) c2)]
  · rw [if_neg c2, pif_t ⟨le_nlt.mpr c1, le_nlt.mpr c2⟩]
theorem eq0 {x : Int32} : (0 ≤ x ∧ x ≤ 0) ↔ x = 0 := by
  rw [Int32.le_iff_toInt_le, Int32.le_iff_toInt_le, ← Int32.toInt_inj]
  exact ⟨fun z => by have := z.1; have := z.2; omega, fun z => by rw [z]; exact ⟨Int.le_refl _, Int.le_refl _⟩⟩
end LkT
