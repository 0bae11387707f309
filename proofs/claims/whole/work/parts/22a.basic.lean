/-! numbers, booleans, and the small methods -/
theorem litI (k : Nat) : (OfNat.ofNat k : Int32) = nI k := rfl
theorem nI_mul (a b : Nat) : nI a * nI b = nI (a * b) := (Int32.ofNat_mul a b).symm
theorem cki_nI {β : Type} {k n : Nat} {x : Option β} (h : k < n) (hn : n < 2 ^ 31) : cki (nI k) n x = x := cki_t (vp_in_nI h hn)
def bI (c : Prop) [Decidable c] : Int32 := if c then 1 else 0
theorem bI01 (c : Prop) [Decidable c] : bI c = 0 ∨ bI c = 1 := by
  unfold bI
  by_cases h : c
  · rw [if_pos h]; exact Or.inr rfl
  · rw [if_neg h]; exact Or.inl rfl
theorem bI_t {c : Prop} [Decidable c] (h : c) : bI c = 1 := if_pos h
theorem bI_f {c : Prop} [Decidable c] (h : ¬ c) : bI c = 0 := if_neg h
theorem bI_0 {c : Prop} [Decidable c] : bI c = 0 ↔ ¬ c := by
  by_cases h : c
  · rw [bI_t h]; exact ⟨fun e => absurd e (by decide), fun e => absurd h e⟩
  · rw [bI_f h]; exact ⟨fun _ => h, fun _ => rfl⟩
theorem bI_1 {c : Prop} [Decidable c] : bI c = 1 ↔ c := by
  by_cases h : c
  · rw [bI_t h]; exact ⟨fun _ => h, fun _ => rfl⟩
  · rw [bI_f h]; exact ⟨fun e => absurd e (by decide), fun e => absurd e h⟩
theorem le64 (a b : Int32) : a.toInt64 ≤ b.toInt64 ↔ a ≤ b := by
  rw [Int64.le_iff_toInt_le, Int32.toInt_toInt64, Int32.toInt_toInt64, Int32.le_iff_toInt_le]
theorem lt64 (a b : Int32) : a.toInt64 < b.toInt64 ↔ a < b := by
  rw [Int64.lt_iff_toInt_lt, Int32.toInt_toInt64, Int32.toInt_toInt64, Int32.lt_iff_toInt_lt]
theorem le_nlt {a b : Int32} : a ≤ b ↔ ¬ b < a := by
  rw [Int32.le_iff_toInt_le, Int32.lt_iff_toInt_lt]
  omega
theorem e_in (F : Nat) (S : St) (a b c : Int32) : f_X11_in F S a.toInt64 b.toInt64 c.toInt64 = some (bI (b ≤ a ∧ a ≤ c), S) := by
  unfold f_X11_in
  simp only [lg_cmp_lt, lg_cmp_gt, lt64]
  by_cases h1 : a < b
  · rw [if_pos h1, bI_f (fun z => (le_nlt.mp z.1) h1)]
  · rw [if_neg h1]
    by_cases h2 : c < a
    · rw [if_pos h2, bI_f (fun z => (le_nlt.mp z.2) h2)]
    · rw [if_neg h2, bI_t ⟨le_nlt.mpr h1, le_nlt.mpr h2⟩]
theorem nI_m1 {k : Nat} (hk : k < 2 ^ 31) : (nI k - 1).toInt = (k : Int) - 1 := by
  rw [Int32.toInt_sub, nI_toInt hk]
  show ((k : Int) - 1).bmod (2 ^ 32) = _
  rw [Int.bmod_def]
  split <;> omega
theorem le_m1 {k : Nat} {v : Int32} (hk : k < 2 ^ 31) : v ≤ nI k - 1 ↔ v < nI k := by
  rw [Int32.le_iff_toInt_le, Int32.lt_iff_toInt_lt, nI_m1 hk, nI_toInt hk]
  omega
theorem bI_congr {p q : Prop} [Decidable p] [Decidable q] (h : p ↔ q) : bI p = bI q := by
  by_cases hp : p
  · rw [bI_t hp, bI_t (h.mp hp)]
  · rw [bI_f hp, bI_f (fun z => hp (h.mpr z))]
theorem e_in0 (F : Nat) (S : St) (v : Int32) {k : Nat} (hk : k < 2 ^ 31) : f_X11_in F S v.toInt64 0 (nI k - 1).toInt64 = some (bI (0 ≤ v ∧ v < nI k), S) := by
  rw [show (0 : Int64) = (0 : Int32).toInt64 from rfl, e_in]
  rw [bI_congr (q := 0 ≤ v ∧ v < nI k) (by rw [le_m1 hk])]
/-- an index that is good -/
theorem ix {v : Int32} {k : Nat} (hk : k < 2 ^ 31) (h : 0 ≤ v ∧ v < nI k) : ∃ j, j < k ∧ v = nI j := by
  obtain ⟨j, h1, rfl⟩ := nI_of (le_nlt.mp h.1)
  exact ⟨j, (nI_ltI h1 hk).mp h.2, rfl⟩
theorem e_passes3 (F : Nat) (S : St) (p q r : Prop) [Decidable p] [Decidable q] [Decidable r] : f_X11_passes3 F S 197 (bI p) (bI q) (bI r) = some (bI (p ∧ q ∧ r), ui S 1000 197 (if ¬ p then 1 else if ¬ q then 2 else if ¬ r then 3 else 0)) := by
  unfold f_X11_passes3 f_X11_passes3_L26
  simp only [lt_eq, si_ui, and_self, if_true]
  by_cases hp : p
  · by_cases hq : q
    · by_cases hr : r
      · simp [bI, hp, hq, hr]
      · simp [bI, hp, hq, hr]
    · simp [bI, hp, hq]
  · simp [bI, hp]
theorem one_bI : (1 : Int32) = bI True := rfl
theorem e_passes2 (F : Nat) (S : St) (p q : Prop) [Decidable p] [Decidable q] : f_X11_passes2 F S 197 (bI p) (bI q) = some (bI (p ∧ q), ui S 1000 197 (if ¬ p then 1 else if ¬ q then 2 else 0)) := by
  have e := e_passes3 F S p q True
  rw [show bI True = (1 : Int32) from rfl] at e
  unfold f_X11_passes2
  rw [e]
  simp only [ob_some, lt_eq]
  rw [ck_t (bI01 _)]
  by_cases hp : p <;> by_cases hq : q <;> simp [bI, hp, hq]
theorem e_passes (F : Nat) (S : St) (p : Prop) [Decidable p] : f_X11_passes F S 197 (bI p) = some (bI p, ui S 1000 197 (if ¬ p then 1 else 0)) := by
  have e := e_passes3 F S p True True
  rw [show bI True = (1 : Int32) from rfl] at e
  unfold f_X11_passes
  rw [e]
  simp only [ob_some, lt_eq]
  rw [ck_t (bI01 _)]
  by_cases hp : p <;> simp [bI, hp]
theorem e_thrown (F : Nat) (S : St) : f_X11_thrown F S 197 = some (si S 1000 197, S) := rfl
theorem eqv_thr (S : St) (v : Int32) : Eqv S (ui S 1000 197 v) := Eqv.ui v (by decide)
theorem eqv_out (S : St) (k : Nat) (v : Int64) : Eqv S (ual S 210 k v) := Eqv.ual v (by decide)
theorem c0 {c : Int64} : lg_cmp c c = 0 := (lg_cmp_eq c c).mpr rfl
/-- the end of the law's case of a call that answers with ints -/
theorem askL {F : Nat} {S : St} {n : Nat} (hR : Rel S n) {fc : Option (Int32 × St)} {fm : St → Option (Int32 × St)} (code v : Int32) (S1 : St) (hc : fc = some (code, S1)) (e1 : Eqv S S1) (hv : code = 0 → al S1 210 0 = v.toInt64)
    (hm : ∃ r S2, fm S1 = some (r, S2) ∧ Eqv S1 S2 ∧ al S2 = al S1 ∧ si S2 1000 197 = code ∧ (code = 0 → r = v)) :
    Ok (Option.bind fc fun z2 => lt z2.1 fun r4 => lt z2.2 fun S3 => Option.bind (fm S3) fun z7 => lt z7.1 fun r9 => lt z7.2 fun S8 => Option.bind (f_X11_thrown F S8 197) fun z11 => lt z11.1 fun r13 => lt z11.2 fun S12 =>
      if r13 = r4 then (if ¬ r4 = 0 then (some (S12, n)) else (cki 0 (ln S12 210) <| if (lg_cmp (al S12 210 (Int32.toNatClampNeg 0)) r9.toInt64) = 0 then (some (S12, n)) else (none))) else (none)) := by
  obtain ⟨r, S2, h1, e2, h2, h3, h4⟩ := hm
  subst hc
  simp only [ob_some, lt_eq, h1, e_thrown, h3, if_true]
  have hr := hR.eqv (e1.tr e2)
  by_cases h0 : code = 0
  · rw [if_neg (fun z => z h0)]
    have hl : ln S2 210 = 1 := hr.2.1.l210
    rw [hl]
    have e : al S2 210 (Int32.toNatClampNeg 0) = v.toInt64 := by rw [h2]; exact hv h0
    rw [show (0 : Int32) = nI 0 from rfl, cki_nI (by omega) (by omega)]
    rw [show al S2 210 (Int32.toNatClampNeg (nI 0)) = v.toInt64 from e, h4 h0, c0]
    exact ⟨S2, n, if_pos rfl, hr⟩
  · rw [if_pos h0]
    exact ⟨S2, n, rfl, hr⟩
/-- .. of a call that answers at once -/
theorem askD {S : St} {n : Nat} (hR : Rel S n) {fc : Option (Int32 × St)} {fm : St → Option (Int32 × St)} (v : Int32) (S1 : St) (hc : fc = some (v, S1)) (e1 : Eqv S S1) (hm : ∃ S2, fm S1 = some (v, S2) ∧ Eqv S1 S2) :
    Ok (Option.bind fc fun z1 => lt z1.1 fun r3 => lt z1.2 fun S2 => Option.bind (fm S2) fun z5 => lt z5.1 fun r7 => lt z5.2 fun S6 => if r3 = r7 then (some (S6, n)) else (none)) := by
  obtain ⟨S2, h1, e2⟩ := hm
  subst hc
  simp only [ob_some, lt_eq, h1, if_true]
  exact ⟨S2, n, rfl, hR.eqv (e1.tr e2)⟩
/-! calls that answer at once -/
section At
variable {F : Nat} {xs : Nat → Int32} {L : Nat} {S : St} {n : Nat} {i : Int32}
theorem Rel.fx (h : Rel S n) : FxF S := h.2.1
theorem Rel.cl (h : Rel S n) : Cl S n 27 (ai S 198) (ai S 200) := h.2.2.2.2.2.2
theorem Cl.wf {S : St} {n p : Nat} {N B : Nat → Int32} (h : Cl S n p N B) : WF N B := h.1
theorem ok_3 (hF : 100000 ≤ F) (h : Rel S n) (hi : ∀ k : Nat, k < 6 → vp_in (i + nI k) L) : Ok (f_law3 F xs L S n 0 197 210 211 i) := by
  refine askD h (fm := fun S => f_X11_errorCode F S 197) (si S 903 0) S rfl (Eqv.rf S) ⟨ui S 1000 197 0, ?_, eqv_thr S 0⟩
  rw [h.2.2.1.2.2.1]
  rfl
theorem ok_4 (hF : 100000 ≤ F) (h : Rel S n) (hi : ∀ k : Nat, k < 6 → vp_in (i + nI k) L) : Ok (f_law4 F xs L S n 0 197 210 211 i) := by
  refine askD h (fm := fun S => f_X11_errorPosition F S 197) (si S 904 0) S rfl (Eqv.rf S) ⟨ui S 1000 197 0, ?_, eqv_thr S 0⟩
  rw [h.2.2.1.2.2.2]
  rfl
theorem m_net (hx : FxF S) (v : Int32) : sr (ui S 1000 197 v) 1001 197 = some 198 := hx.r1001_197
theorem ok_10 (hF : 100000 ≤ F) (h : Rel S n) (hi : ∀ k : Nat, k < 6 → vp_in (i + nI k) L) : Ok (f_law10 F xs L S n 0 197 210 211 i) := by
  refine askD h (fm := fun S => f_X11_day F S 197) (si S 701 27) S ?_ (Eqv.rf S) ⟨ui S 1000 197 0, ?_, eqv_thr S 0⟩
  · unfold f_X10_day; rw [h.fx.r905_0]; rfl
  · unfold f_X11_day; simp only [lt_eq]; rw [m_net h.fx, ob_some, ln_ui, h.fx.l198, h.cl.2.2.1.1]; rfl
theorem ok_12 (hF : 100000 ≤ F) (h : Rel S n) (hi : ∀ k : Nat, k < 6 → vp_in (i + nI k) L) : Ok (f_law12 F xs L S n 0 197 210 211 i) := by
  refine askD h (fm := fun S => f_X11_bounced F S 197) (si S 702 27) S ?_ (Eqv.rf S) ⟨ui S 1000 197 0, ?_, eqv_thr S 0⟩
  · unfold f_X10_bounced; rw [h.fx.r905_0]; rfl
  · unfold f_X11_bounced; simp only [lt_eq]; rw [m_net h.fx, ob_some, ln_ui, h.fx.l198, h.cl.2.2.1.2.1]; rfl
theorem ok_13 (hF : 100000 ≤ F) (h : Rel S n) (hi : ∀ k : Nat, k < 6 → vp_in (i + nI k) L) : Ok (f_law13 F xs L S n 0 197 210 211 i) := by
  refine askD h (fm := fun S => f_X11_messageCount F S 197) (si S 705 27) S ?_ (Eqv.rf S) ⟨ui S 1000 197 0, ?_, eqv_thr S 0⟩
  · unfold f_X10_messageCount; rw [h.fx.r905_0]; rfl
  · unfold f_X11_messageCount; simp only [lt_eq]; rw [m_net h.fx, ob_some, ln_ui, h.fx.l198, h.cl.2.2.1.2.2]; rfl
theorem ok_52 (hF : 100000 ≤ F) (h : Rel S n) (hi : ∀ k : Nat, k < 6 → vp_in (i + nI k) L) : Ok (f_law52 F xs L S n 0 197 210 211 i) := by
  refine askD h (fm := fun S => f_X11_eventCount F S 197) (si S 204 40) S ?_ (Eqv.rf S) ⟨ui S 1000 197 0, ?_, eqv_thr S 0⟩
  · unfold f_X10_eventCount; rw [h.fx.r905_0, ob_some, h.fx.sp27.r711_0]; rfl
  · unfold f_X11_eventCount; simp only [lt_eq]; rw [m_net h.fx, ob_some, ln_ui, h.fx.l198, show si S 204 40 = ai S 198 9 from h.cl.2.2.2.2.2.2.2.2.1.1]; rfl
theorem ok_56 (hF : 100000 ≤ F) (h : Rel S n) (hi : ∀ k : Nat, k < 6 → vp_in (i + nI k) L) : Ok (f_law56 F xs L S n 0 197 210 211 i) := by
  obtain ⟨hh, f, -, -, g1, g2, -⟩ := h.2.2.2.2.2.1
  refine askD h (fm := fun S => f_X11_undoCount F S 197) (si S 909 0) S rfl (Eqv.rf S) ⟨ui S 1000 197 0, ?_, eqv_thr S 0⟩
  rw [g1, ← g2]
  rfl
end At
