/-- a call that asks, and may be refused: what the class says (o), what the model says (hm) -/
theorem ask {F : Nat} {S : St} {n : Nat} (hR : Rel S n) {fq : Option ((Nat ⊕ Int32) × St)} {H : St → Nat → Option (Int32 × St)} {fm : St → Option (Int32 × St)} (o : Nat ⊕ Int32) (S1 : St) (hq : fq = some (o, S1)) (e1 : Eqv S S1)
    (hm : ∀ S', Rel S' n → Eqv S S' → ∃ r S2, fm S' = some (r, S2) ∧ Eqv S' S2 ∧ al S2 = al S' ∧ (∀ x, o = .inl x → ∃ code, ¬ code = 0 ∧ H S1 x = some (code, S1) ∧ si S2 1000 197 = code) ∧ ∀ v, o = .inr v → r = v ∧ si S2 1000 197 = 0) :
    Ok (Option.bind (Option.bind fq fun z1 => lt z1.2 fun S2 => sm z1.1 (H S2) (fun r3 => cki 0 (ln S2 210) <| lt (ual S2 210 (Int32.toNatClampNeg 0) r3.toInt64) fun S11 => some (0, S11))) fun z2 => lt z2.1 fun r4 => lt z2.2 fun S3 => Option.bind (fm S3) fun z7 => lt z7.1 fun r9 => lt z7.2 fun S8 => Option.bind (f_X11_thrown F S8 197) fun z11 => lt z11.1 fun r13 => lt z11.2 fun S12 =>
      if r13 = r4 then (if ¬ r4 = 0 then (some (S12, n)) else (cki 0 (ln S12 210) <| if (lg_cmp (al S12 210 (Int32.toNatClampNeg 0)) r9.toInt64) = 0 then (some (S12, n)) else (none))) else (none)) := by
  subst hq
  have hR1 := hR.eqv e1
  cases o with
  | inl x =>
    obtain ⟨r, S2, h1, h2, h3, h4, -⟩ := hm S1 hR1 e1
    obtain ⟨code, g1, g2, g3⟩ := h4 x rfl
    refine askL hR (fm := fm) code 0 S1 ?_ e1 (fun q => absurd q g1) ⟨r, S2, h1, h2, h3, g3, fun q => absurd q g1⟩
    simp only [ob_some, lt_eq, sm_l]
    exact g2
  | inr v =>
    have e2 := eqv_out S1 0 v.toInt64
    obtain ⟨r, S2, h1, h2, h3, -, h5⟩ := hm (ual S1 210 0 v.toInt64) (hR1.eqv e2) (e1.tr e2)
    obtain ⟨g1, g2⟩ := h5 v rfl
    refine askL hR (fm := fm) 0 v (ual S1 210 0 v.toInt64) ?_ (e1.tr e2) (fun _ => ?_) ⟨r, S2, h1, h2, h3, g2, fun _ => g1⟩
    · simp only [ob_some, lt_eq, sm_r]
      rw [hR1.fx.l210]
      rfl
    · rw [al_ual, if_pos ⟨rfl, rfl⟩]
/-! places of the model's net -/
section Net
variable {F : Nat} {S : St} {n : Nat}
theorem Rel.wf (h : Rel S n) : WF (ai S 198) (ai S 200) := h.cl.1
theorem isCnt.eq {N : Nat → Int32} {i b : Nat} (h : isCnt N i b) : N i = nI (kN N i) := h.1
theorem Rel.n3 (h : Rel S n) : isCnt (ai S 198) 3 8 := h.wf.2.1.1
theorem Rel.n4 (h : Rel S n) : isCnt (ai S 198) 4 10 := h.wf.2.1.2.1
theorem Rel.n5 (h : Rel S n) : isCnt (ai S 198) 5 6 := h.wf.2.1.2.2.1
theorem Rel.n6 (h : Rel S n) : isCnt (ai S 198) 6 6 := h.wf.2.1.2.2.2.1
theorem Rel.n7 (h : Rel S n) : isCnt (ai S 198) 7 120 := h.wf.2.1.2.2.2.2.1
theorem Rel.n8 (h : Rel S n) : isCnt (ai S 198) 8 480 := h.wf.2.1.2.2.2.2.2.1
theorem Rel.n9 (h : Rel S n) : isCnt (ai S 198) 9 60 := h.wf.2.1.2.2.2.2.2.2.1
theorem Rel.n2 (h : Rel S n) : isCnt (ai S 198) 2 22000 := h.wf.1.2.2.2
theorem Rel.n1 (h : Rel S n) : isCnt (ai S 198) 1 30 ∧ 1 ≤ kN (ai S 198) 1 := ⟨h.wf.1.2.1, h.wf.1.2.2.1⟩
theorem Rel.ru (h : Rel S n) : ∃ r, sr S 700 27 = some r ∧ (r = 1 ∨ dyn n r 19) ∧ CR S r (ai S 198) := h.cl.2.1
theorem e_has {p k : Nat} {x : Int32} (hk : si S 401 p = nI k) : f_X5_has F S p x = some (bI (0 ≤ x ∧ x < nI k), S) := by
  unfold f_X5_has
  rw [hk]
  by_cases h1 : x < 0
  · rw [if_pos h1, bI_f (fun z => (le_nlt.mp z.1) h1)]
  · rw [if_neg h1]
    by_cases h2 : nI k ≤ x
    · rw [if_pos h2, bI_f (fun z => le_nlt.mp h2 z.2)]
    · rw [if_neg h2, bI_t ⟨le_nlt.mpr h1, by rw [le_nlt] at h2; exact Classical.not_not.mp h2⟩]
theorem ne_bI {β : Type} (p : Prop) [Decidable p] (a b : β) : (if ¬ bI p = 0 then a else b) = if p then a else b := by
  by_cases h : p
  · rw [bI_t h, if_pos h]; rfl
  · rw [bI_f h, if_neg h]; rfl
theorem eq_bI {β : Type} (p : Prop) [Decidable p] (a b : β) : (if bI p = 0 then a else b) = if p then b else a := by
  by_cases h : p
  · rw [bI_t h, if_pos h]; rfl
  · rw [bI_f h, if_neg h]; rfl
/-- an index of an array in range -/
theorem e_at {p k : Nat} (hk : k < ln S p) (hl : ln S p < 2 ^ 31) : f_X10_at F S p (nI k) = some (ai S p k, S) := by
  unfold f_X10_at
  have a1 : ¬ nI k < 0 := nI_pos (by omega)
  have a2 : ¬ nI (ln S p) ≤ nI k := nI_ge hk hl
  rw [if_neg a1, if_neg a2, cki_nI hk hl, nI_clamp (by omega)]
theorem e_needClass (h : Rel S n) (x : Int32) : f_X10_needClass F S 0 x = some (if 0 ≤ x ∧ x < ai S 198 3 then .inr () else .inl 4, S) := by
  obtain ⟨r, h1, h2, h3⟩ := h.ru
  unfold f_X10_needClass
  rw [h.fx.r905_0, ob_some, h1, ob_some, h3.1.r602_0, ob_some, e_has (k := kN (ai S 198) 3) (by rw [h3.2.1.2.2.1]; exact h.n3.1), ob_some, h.n3.1]
  simp only [lt_eq, ne_bI]
  by_cases hc : 0 ≤ x ∧ x < nI (kN (ai S 198) 3)
  · rw [if_pos hc, if_pos hc]
  · rw [if_neg hc, if_neg hc]
theorem e_needUser (h : Rel S n) (x : Int32) : f_X10_needUser F S 0 x = some (if 0 ≤ x ∧ x < ai S 198 4 then .inr () else .inl 4, S) := by
  obtain ⟨r, h1, h2, h3⟩ := h.ru
  unfold f_X10_needUser
  rw [h.fx.r905_0, ob_some, h1, ob_some, h3.1.r606_0, ob_some, e_has (k := kN (ai S 198) 4) (by rw [h3.2.1.2.2.2.1]; exact h.n4.1), ob_some, h.n4.1]
  simp only [lt_eq, ne_bI]
  by_cases hc : 0 ≤ x ∧ x < nI (kN (ai S 198) 4)
  · rw [if_pos hc, if_pos hc]
  · rw [if_neg hc, if_neg hc]
theorem e_needHold (h : Rel S n) (x : Int32) : f_X10_needHold F S 0 x = some (if 0 ≤ x ∧ x < ai S 198 6 then .inr () else .inl 4, S) := by
  obtain ⟨r, h1, h2, h3⟩ := h.ru
  unfold f_X10_needHold
  rw [h.fx.r905_0, ob_some, h1, ob_some, h3.1.r611_0, ob_some, e_has (k := kN (ai S 198) 6) (by rw [h3.2.1.2.2.2.2.2]; exact h.n6.1), ob_some, h.n6.1]
  simp only [lt_eq, ne_bI]
  by_cases hc : 0 ≤ x ∧ x < nI (kN (ai S 198) 6)
  · rw [if_pos hc, if_pos hc]
  · rw [if_neg hc, if_neg hc]
theorem e_needMessage (h : Rel S n) (x : Int32) : f_X10_needMessage F S 0 x = some (if 0 ≤ x ∧ x < ai S 198 7 then .inr () else .inl 4, S) := by
  unfold f_X10_needMessage
  try unfold f_X10_needMessage_L15
  by_cases h1 : x < 0
  · rw [if_pos h1, if_neg (fun z => (le_nlt.mp z.1) h1)]
  · rw [if_neg h1, h.fx.r905_0, ob_some, h.cl.2.2.1.2.2]
    by_cases h2 : x < ai S 198 7
    · rw [if_pos h2, if_pos ⟨le_nlt.mpr h1, h2⟩]
    · rw [if_neg h2, if_neg (fun z => h2 z.2)]
/-- the model's own checks -/
theorem e_isClass (h : Rel S n) (x : Int32) : f_X11_isClass F S 197 x = some (bI (0 ≤ x ∧ x < ai S 198 3), S) := by
  have hb := h.n3.2
  unfold f_X11_isClass
  rw [h.fx.r1001_197, ob_some, h.fx.l198, litI 3, cki_nI (by omega) (by omega), nI_clamp (by omega), h.n3.1, e_in0 F S x (by omega), ob_some]
  simp only [lt_eq]
  rw [ck_t (bI01 _)]
theorem e_isUser (h : Rel S n) (x : Int32) : f_X11_isUser F S 197 x = some (bI (0 ≤ x ∧ x < ai S 198 4), S) := by
  have hb := h.n4.2
  unfold f_X11_isUser
  rw [h.fx.r1001_197, ob_some, h.fx.l198, litI 4, cki_nI (by omega) (by omega), nI_clamp (by omega), h.n4.1, e_in0 F S x (by omega), ob_some]
  simp only [lt_eq]
  rw [ck_t (bI01 _)]
theorem e_isHold (h : Rel S n) (x : Int32) : f_X11_isHold F S 197 x = some (bI (0 ≤ x ∧ x < ai S 198 6), S) := by
  have hb := h.n6.2
  unfold f_X11_isHold
  rw [h.fx.r1001_197, ob_some, h.fx.l198, litI 6, cki_nI (by omega) (by omega), nI_clamp (by omega), h.n6.1, e_in0 F S x (by omega), ob_some]
  simp only [lt_eq]
  rw [ck_t (bI01 _)]
theorem e_isMessage (h : Rel S n) (x : Int32) : f_X11_isMessage F S 197 x = some (bI (0 ≤ x ∧ x < ai S 198 7), S) := by
  have hb := h.n7.2
  unfold f_X11_isMessage
  rw [h.fx.r1001_197, ob_some, h.fx.l198, litI 7, cki_nI (by omega) (by omega), nI_clamp (by omega), h.n7.1, e_in0 F S x (by omega), ob_some]
  simp only [lt_eq]
  rw [ck_t (bI01 _)]
theorem e_cls (hx : FxF S) {c w : Nat} (h : 11 + 9 * c + w < 6391) : f_X11_classValue F S 197 (nI c) (nI w) = some (ai S 198 (11 + 9 * c + w), S) := by
  unfold f_X11_classValue
  rw [hx.r1001_197, ob_some, hx.l198, litI 11, litI 9, nI_mul, nI_add, nI_add, cki_nI h (by omega), nI_clamp (by omega)]
theorem e_msg (hx : FxF S) {c w : Nat} (h : 331 + 7 * c + w < 6391) : f_X11_messageValue F S 197 (nI c) (nI w) = some (ai S 198 (331 + 7 * c + w), S) := by
  unfold f_X11_messageValue
  rw [hx.r1001_197, ob_some, hx.l198, litI 331, litI 7, nI_mul, nI_add, nI_add, cki_nI h (by omega), nI_clamp (by omega)]
theorem e_hld (hx : FxF S) {c w : Nat} (h : 205 + 21 * c + w < 6391) : f_X11_holdValue F S 197 (nI c) (nI w) = some (ai S 198 (205 + 21 * c + w), S) := by
  unfold f_X11_holdValue
  rw [hx.r1001_197, ob_some, hx.l198, litI 205, litI 21, nI_mul, nI_add, nI_add, cki_nI h (by omega), nI_clamp (by omega)]
theorem e_prt (hx : FxF S) {c w : Nat} (h : 4771 + 3 * c + w < 6391) : f_X11_partValue F S 197 (nI c) (nI w) = some (ai S 198 (4771 + 3 * c + w), S) := by
  unfold f_X11_partValue
  rw [hx.r1001_197, ob_some, hx.l198, litI 4771, litI 3, nI_mul, nI_add, nI_add, cki_nI h (by omega), nI_clamp (by omega)]
theorem e_needWhat (x : Int32) (k : Nat) (hk : k < 100) : f_X10_needWhat F S x (nI k) = some (if 0 ≤ x ∧ x < nI (k + 1) then .inr () else .inl 2, S) := by
  unfold f_X10_needWhat f_X10_needWhat_L9
  by_cases h1 : x < 0
  · rw [if_pos h1, if_neg (fun z => (le_nlt.mp z.1) h1)]
  · rw [if_neg h1]
    have e : x ≤ nI k ↔ x < nI (k + 1) := by
      rw [Int32.le_iff_toInt_le, Int32.lt_iff_toInt_lt, nI_toInt (by omega), nI_toInt (by omega)]
      omega
    by_cases h2 : x ≤ nI k
    · rw [if_pos h2, if_pos ⟨le_nlt.mpr h1, e.mp h2⟩]
    · rw [if_neg h2, if_neg (fun z => h2 (e.mpr z.2))]
theorem e_inK (F : Nat) (S : St) (x : Int32) (k : Nat) (hk : k < 2 ^ 31 - 1) : f_X11_in F S x.toInt64 0 (nI k).toInt64 = some (bI (0 ≤ x ∧ x < nI (k + 1)), S) := by
  rw [show (0 : Int64) = (0 : Int32).toInt64 from rfl, e_in]
  rw [bI_congr (q := 0 ≤ x ∧ x < nI (k + 1)) (by
    rw [Int32.le_iff_toInt_le (x := x), Int32.lt_iff_toInt_lt, nI_toInt (by omega), nI_toInt (by omega)]
    exact ⟨fun z => ⟨z.1, by omega⟩, fun z => ⟨z.1, by omega⟩⟩)]
end Net
