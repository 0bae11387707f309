/-! THE STATE: a heap of numbered objects; every field and array is a function of the number -/
/-- the script, and its length -/
abbrev XS : Type := (Nat → Int32) × Nat
abbrev GP : Type := (Nat → ClassId) × (Nat → Nat → Nat) × (Nat → ClassId) × (Nat → Nat) × XS
def gD (g : GP) : va_G := (g.1, g.2.1)
def gcy (g : GP) : Nat → ClassId := g.2.2.1
def gen (g : GP) : Nat → Nat := g.2.2.2.1
def gX (g : GP) : XS := g.2.2.2.2
/-- the kinds that are objects -/
abbrev ob (c : Nat) : Prop := c < 11 ∨ c = 18
def gT (g : GP) : List (ClassId × FieldType) := [(gcy g 0, .byte), (gcy g 1, .int), (gcy g 2, .long), (gcy g 3, .object "MailSpool$Bytes"), (gcy g 4, .object "MailSpool$Message"), (gcy g 5, .object "MailSpool$Spool")]
abbrev St : Type := (Nat → Nat → Int32) × (Nat → Nat → Option Nat) × (Nat → Nat → Int64) × (Nat → Nat → Int32) × (Nat → Nat → Int64) × (Nat → Nat → Option Nat) × (Nat → Nat)
def si (S : St) : Nat → Nat → Int32 := S.1
def sr (S : St) : Nat → Nat → Option Nat := S.2.1
def sl (S : St) : Nat → Nat → Int64 := S.2.2.1
def ai (S : St) : Nat → Nat → Int32 := S.2.2.2.1
def al (S : St) : Nat → Nat → Int64 := S.2.2.2.2.1
def ar (S : St) : Nat → Nat → Option Nat := S.2.2.2.2.2.1
def ln (S : St) : Nat → Nat := S.2.2.2.2.2.2
def up2 {α : Type} (F : Nat → Nat → α) (f i : Nat) (v : α) : Nat → Nat → α := fun f' i' => if f' = f ∧ i' = i then v else F f' i'
def ui (S : St) (f i : Nat) (v : Int32) : St := (up2 S.1 f i v, S.2)
def ur (S : St) (f i : Nat) (v : Option Nat) : St := (S.1, up2 S.2.1 f i v, S.2.2)
def ul (S : St) (f i : Nat) (v : Int64) : St := (S.1, S.2.1, up2 S.2.2.1 f i v, S.2.2.2)
def sai (S : St) (i : Nat) (h : Nat → Int32) : St := (S.1, S.2.1, S.2.2.1, va_up S.2.2.2.1 i h, S.2.2.2.2)
def sal (S : St) (i : Nat) (h : Nat → Int64) : St := (S.1, S.2.1, S.2.2.1, S.2.2.2.1, va_up S.2.2.2.2.1 i h, S.2.2.2.2.2)
def sar (S : St) (i : Nat) (h : Nat → Option Nat) : St := (S.1, S.2.1, S.2.2.1, S.2.2.2.1, S.2.2.2.2.1, va_up S.2.2.2.2.2.1 i h, S.2.2.2.2.2.2)
def uai (S : St) (i k : Nat) (v : Int32) : St := sai S i (upd (ai S i) k v)
def ual (S : St) (i k : Nat) (v : Int64) : St := sal S i (vp_updL (al S i) k v)
def uar (S : St) (i k : Nat) (v : Option Nat) : St := sar S i (va_up (ar S i) k v)
/-- a new object: all its fields 0 or null -/
def nob (S : St) (n : Nat) : St := (fun f i => if i = n then 0 else S.1 f i, fun f i => if i = n then none else S.2.1 f i, fun f i => if i = n then 0 else S.2.2.1 f i, S.2.2.2.1, S.2.2.2.2.1, va_up S.2.2.2.2.2.1 n (fun _ => none), S.2.2.2.2.2.2)
/-- a new array -/
def nar (S : St) (n len : Nat) : St := (S.1, S.2.1, S.2.2.1, va_up S.2.2.2.1 n (fun _ => 0), va_up S.2.2.2.2.1 n (fun _ => 0), va_up S.2.2.2.2.2.1 n (fun _ => none), va_up S.2.2.2.2.2.2 n len)
/-- the kinds of the fields: 0 int, 1 reference, 2 long, 3 enum constant -/
def tg : Nat → List Nat
  | 0 => [1, 0]
  | 1 => [1, 1, 1, 0]
  | 2 => [1, 1, 1, 0, 0]
  | 3 => [0, 0, 0, 1, 0]
  | 4 => [1, 0]
  | 5 => [1, 1, 0, 0, 0, 0, 0, 2, 3, 0]
  | 6 => [0, 0, 1, 1, 1, 1, 1, 1, 1, 1, 1, 1, 1, 1, 1, 1]
  | 7 => [1, 0, 0, 0, 1, 0, 1, 1, 1, 1, 1, 1, 1, 0, 1, 1]
  | 8 => [0, 0, 0, 1, 1, 1, 1, 1]
  | 9 => [1, 1, 1, 0, 0, 1, 1, 1, 0, 0, 1]
  | 10 => [1, 0, 0, 0]
  | 18 => [1, 0, 0, 0]
  | _ => []
/-- the kind that a reference field names -/
def rk : Nat → Nat
  | 0 => 11
  | 100 => 0 | 101 => 12 | 102 => 12
  | 200 => 12 | 201 => 12 | 202 => 12
  | 303 => 12
  | 400 => 13
  | 500 => 0 | 501 => 6
  | 602 => 4 | 606 => 4 | 609 => 4 | 611 => 4 | 615 => 13
  | 700 => 6 | 706 => 15 | 710 => 8 | 711 => 2 | 715 => 3
  | 803 => 14 | 807 => 0
  | 900 => 0 | 901 => 0 | 902 => 1 | 905 => 7 | 906 => 7 | 907 => 16
  | 1000 => 11 | 1800 => 11
  | _ => 12
/-- the kind of the elements of an array of references -/
def ak : Nat → Nat
  | 14 => 0 | 15 => 3 | 16 => 7 | _ => 99
def fv (g : GP) (ad : Nat → Nat) (S : St) (ci i k t : Nat) : Value := match t with
  | 0 => .int (si S (100 * ci + k) i)
  | 1 => va_re ad (sr S (100 * ci + k) i)
  | 2 => .long (sl S (100 * ci + k) i)
  | _ => va_re (gen g) (sr S (100 * ci + k) i)
def fvs (g : GP) (ad : Nat → Nat) (S : St) (ci i : Nat) : List Value := (tg ci).mapIdx (fun k t => fv g ad S ci i k t)
def cE (g : GP) (ad K : Nat → Nat) (S : St) (i : Nat) : va_E :=
  if ob (K i) then .inr (K i, fvs g ad S (K i) i)
  else if K i < 13 then .inl (gcy g (K i - 11), ln S i, .inl (ai S i))
  else if K i = 13 then .inl (gcy g 2, ln S i, .inr (.inl (al S i)))
  else if K i = 17 then .inl (gcy g 6, ln S i, .inr (.inr (.inr (.inl (fun j => (al S i j).toUInt64)))))
  else .inl (gcy g (K i - 11), ln S i, .inr (.inr (.inr (.inr (fun j => (ar S i j).map ad)))))
def wd (g : GP) (ad : Nat → Nat) (n : Nat) (K : Nat → Nat) (S : St) : va_W := (List.range n).map (fun i => (ad i, cE g ad K S i))
/-- the references name what their types say -/
def WT (n : Nat) (K : Nat → Nat) (S : St) : Prop := (∀ f i j, f ≠ 508 → sr S f i = some j → j < n ∧ K j = rk f) ∧ ∀ i k j, ar S i k = some j → j < n ∧ K j = ak (K i)
def dA (ad : Nat → Nat) (n sz : Nat) : Nat → Prop := fun q => (∃ i, i < n ∧ q = ad i) ∨ sz ≤ q
def Wb (g : GP) (ad : Nat → Nat) (n : Nat) (K : Nat → Nat) (S : St) (A : Nat → Prop) (H : Heap) : Prop := va_P (gD g) vwCl (wd g ad n K S) H ∧ va_D A (wd g ad n K S) ∧ WT n K S
theorem wd_get {g : GP} {ad : Nat → Nat} {n : Nat} {K : Nat → Nat} {S : St} {i : Nat} (h : i < n) : (wd g ad n K S)[i]? = some (ad i, cE g ad K S i) := by
  simp [wd, h]
theorem wd_len {g : GP} {ad : Nat → Nat} {n : Nat} {K : Nat → Nat} {S : St} : (wd g ad n K S).length = n := by
  simp [wd]
theorem wd_set {g : GP} {ad : Nat → Nat} {n : Nat} {K : Nat → Nat} {S S' : St} {i : Nat} {e : va_E} (he : cE g ad K S' i = e) (ho : ∀ j, j ≠ i → cE g ad K S' j = cE g ad K S j) : (wd g ad n K S).set i (ad i, e) = wd g ad n K S' := by
  apply List.ext_getElem?
  intro k
  rw [List.getElem?_set]
  by_cases hk : i = k
  · subst hk
    by_cases hn : i < n
    · simp [wd, hn, he]
    · simp [wd, hn]
  · simp only [if_neg hk]
    by_cases hn : k < n
    · simp [wd, hn, ho k (Ne.symm hk)]
    · simp [wd, hn]
theorem cE_obj {g : GP} {ad K : Nat → Nat} {S : St} {i ci : Nat} (h : K i = ci) (hc : ob ci) : cE g ad K S i = .inr (ci, fvs g ad S ci i) := by
  unfold cE
  rw [h, if_pos hc]
theorem cE_i {g : GP} {ad K : Nat → Nat} {S : St} {i ci : Nat} (h : K i = ci) (hc : ci = 11 ∨ ci = 12) : cE g ad K S i = .inl (gcy g (ci - 11), ln S i, .inl (ai S i)) := by
  unfold cE
  rw [h]
  rcases hc with rfl | rfl <;> rfl
theorem cE_l {g : GP} {ad K : Nat → Nat} {S : St} {i : Nat} (h : K i = 13) : cE g ad K S i = .inl (gcy g 2, ln S i, .inr (.inl (al S i))) := by
  unfold cE
  rw [h]
  rfl
theorem cE_r {g : GP} {ad K : Nat → Nat} {S : St} {i ci : Nat} (h : K i = ci) (hc : ci = 14 ∨ ci = 15 ∨ ci = 16) : cE g ad K S i = .inl (gcy g (ci - 11), ln S i, .inr (.inr (.inr (.inr (fun j => (ar S i j).map ad))))) := by
  unfold cE
  rw [h]
  rcases hc with rfl | rfl | rfl <;> rfl
theorem cE_d {g : GP} {ad K : Nat → Nat} {S : St} {i : Nat} (h : K i = 17) : cE g ad K S i = .inl (gcy g 6, ln S i, .inr (.inr (.inr (.inl (fun j => (al S i j).toUInt64))))) := by
  unfold cE
  rw [h]
  rfl
theorem fvs_get {g : GP} {ad : Nat → Nat} {S : St} {ci i k t : Nat} (h : (tg ci)[k]? = some t) : (fvs g ad S ci i)[k]? = some (fv g ad S ci i k t) := by
  simp [fvs, h]
theorem fvs_set {g : GP} {ad : Nat → Nat} {S S' : St} {ci i k t : Nat} {v : Value} (h : (tg ci)[k]? = some t) (hv : fv g ad S' ci i k t = v) (ho : ∀ j t', j ≠ k → fv g ad S' ci i j t' = fv g ad S ci i j t') : (fvs g ad S ci i).set k v = fvs g ad S' ci i := by
  apply List.ext_getElem?
  intro j
  rw [List.getElem?_set]
  by_cases hj : k = j
  · subst hj
    have hl : k < (tg ci).length := (List.getElem?_eq_some_iff.mp h).1
    have hl2 : k < (fvs g ad S ci i).length := by simpa [fvs] using hl
    rw [fvs_get (S := S') h, hv, if_pos rfl, if_pos hl2]
  · simp only [if_neg hj, fvs, List.getElem?_mapIdx]
    cases hq : (tg ci)[j]? with
    | none => rfl
    | some t' => simp [ho j t' (Ne.symm hj)]
theorem cE_ui {g : GP} {ad K : Nat → Nat} {S : St} {f i j : Nat} {v : Int32} (h : j ≠ i) : cE g ad K (ui S f i v) j = cE g ad K S j := by
  have e : ∀ k t, fv g ad (ui S f i v) (K j) j k t = fv g ad S (K j) j k t := by
    intro k t
    unfold fv
    simp [si, sr, sl, ui, up2, h]
  unfold cE
  simp only [fvs, e]
  rfl
theorem cE_ur {g : GP} {ad K : Nat → Nat} {S : St} {f i j : Nat} {v : Option Nat} (h : j ≠ i) : cE g ad K (ur S f i v) j = cE g ad K S j := by
  have e : ∀ k t, fv g ad (ur S f i v) (K j) j k t = fv g ad S (K j) j k t := by
    intro k t
    unfold fv
    simp [si, sr, sl, ur, up2, h]
  unfold cE
  simp only [fvs, e]
  rfl
theorem cE_ul {g : GP} {ad K : Nat → Nat} {S : St} {f i j : Nat} {v : Int64} (h : j ≠ i) : cE g ad K (ul S f i v) j = cE g ad K S j := by
  have e : ∀ k t, fv g ad (ul S f i v) (K j) j k t = fv g ad S (K j) j k t := by
    intro k t
    unfold fv
    simp [si, sr, sl, ul, up2, h]
  unfold cE
  simp only [fvs, e]
  rfl
theorem cE_sai {g : GP} {ad K : Nat → Nat} {S : St} {i j : Nat} {h : Nat → Int32} (hj : j ≠ i) : cE g ad K (sai S i h) j = cE g ad K S j := by
  have e : ai (sai S i h) j = ai S j := by simp [ai, sai, va_up, hj]
  unfold cE
  rw [e]
  rfl
theorem cE_sal {g : GP} {ad K : Nat → Nat} {S : St} {i j : Nat} {h : Nat → Int64} (hj : j ≠ i) : cE g ad K (sal S i h) j = cE g ad K S j := by
  have e : al (sal S i h) j = al S j := by simp [al, sal, va_up, hj]
  unfold cE
  rw [e]
  rfl
theorem cE_sar {g : GP} {ad K : Nat → Nat} {S : St} {i j : Nat} {h : Nat → Option Nat} (hj : j ≠ i) : cE g ad K (sar S i h) j = cE g ad K S j := by
  have e : ar (sar S i h) j = ar S j := by simp [ar, sar, va_up, hj]
  unfold cE
  rw [e]
  rfl
theorem WT_ui {n : Nat} {K : Nat → Nat} {S : St} {f i : Nat} {v : Int32} (h : WT n K S) : WT n K (ui S f i v) := h
theorem WT_ul {n : Nat} {K : Nat → Nat} {S : St} {f i : Nat} {v : Int64} (h : WT n K S) : WT n K (ul S f i v) := h
theorem WT_sai {n : Nat} {K : Nat → Nat} {S : St} {i : Nat} {v : Nat → Int32} (h : WT n K S) : WT n K (sai S i v) := h
theorem WT_sal {n : Nat} {K : Nat → Nat} {S : St} {i : Nat} {v : Nat → Int64} (h : WT n K S) : WT n K (sal S i v) := h
theorem WT_ur {n : Nat} {K : Nat → Nat} {S : St} {f i : Nat} {v : Option Nat} (h : WT n K S) (hv : f ≠ 508 → ∀ j, v = some j → j < n ∧ K j = rk f) : WT n K (ur S f i v) := by
  refine ⟨fun f' i' j hf hs => ?_, h.2⟩
  have hs' : (if f' = f ∧ i' = i then v else sr S f' i') = some j := hs
  by_cases q : f' = f ∧ i' = i
  · rw [if_pos q] at hs'
    rw [q.1] at hf ⊢
    exact hv hf j hs'
  · rw [if_neg q] at hs'
    exact h.1 f' i' j hf hs'
theorem WT_uar {n : Nat} {K : Nat → Nat} {S : St} {i k : Nat} {v : Option Nat} (h : WT n K S) (hv : ∀ j, v = some j → j < n ∧ K j = ak (K i)) : WT n K (uar S i k v) := by
  refine ⟨h.1, fun i' k' j hs => ?_⟩
  have hs' : (va_up (ar S) i (va_up (ar S i) k v)) i' k' = some j := hs
  unfold va_up at hs'
  by_cases q : i' = i
  · subst q
    simp only [if_true] at hs'
    by_cases q2 : k' = k
    · subst q2
      simp only [if_true] at hs'
      exact hv j hs'
    · simp only [if_neg q2] at hs'
      exact h.2 _ _ _ hs'
  · simp only [if_neg q] at hs'
    exact h.2 _ _ _ hs'
/-! steps of a pure walk -/
def lt {α : Sort _} {β : Type} (e : α) (k : α → Option β) : Option β := k e
theorem ltE {α : Sort _} {β : Type} {e : α} {k : α → Option β} {r : Option β} (h : lt e k = r) (x : α) (hx : x = e) : k x = r := by
  subst hx
  exact h
theorem obE {α β : Type} {o : Option α} {k : α → Option β} {r : β} (h : Option.bind o k = some r) : ∃ x, o = some x ∧ k x = some r := by
  cases o with
  | none => cases h
  | some x => exact ⟨x, rfl, h⟩
theorem ifT {β : Type} {c : Prop} [Decidable c] {a b r : β} (hc : c) (h : (if c then a else b) = r) : a = r := by rw [if_pos hc] at h; exact h
theorem ifF {β : Type} {c : Prop} [Decidable c] {a b r : β} (hc : ¬ c) (h : (if c then a else b) = r) : b = r := by rw [if_neg hc] at h; exact h
/-- a check that must hold -/
def ck {β : Type} (c : Prop) [Decidable c] (k : Option β) : Option β := if c then k else none
theorem ckE {β : Type} {c : Prop} [Decidable c] {k : Option β} {r : β} (h : ck c k = some r) : c ∧ k = some r := by
  unfold ck at h
  by_cases hc : c
  · exact ⟨hc, by rw [if_pos hc] at h; exact h⟩
  · rw [if_neg hc] at h; cases h
def cki {β : Type} (x : Int32) (n : Nat) (k : Option β) : Option β := if x < 0 ∨ n ≤ x.toNatClampNeg then none else k
theorem ckiE {β : Type} {x : Int32} {n : Nat} {k : Option β} {r : β} (h : cki x n k = some r) : vp_in x n ∧ k = some r := by
  unfold cki at h
  by_cases hc : x < 0 ∨ n ≤ x.toNatClampNeg
  · rw [if_pos hc] at h; cases h
  · exact ⟨hc, by rw [if_neg hc] at h; exact h⟩
/-- a reference that may be null -/
def os {α β : Type} (o : Option α) (a : β) (b : α → β) : β := match o with
  | none => a
  | some x => b x
theorem osN {α β : Type} {o : Option α} {a : β} {b : α → β} {r : β} (hq : o = none) (h : os o a b = r) : a = r := by subst hq; exact h
theorem osS {α β : Type} {o : Option α} {a : β} {b : α → β} {r : β} {x : α} (hq : o = some x) (h : os o a b = r) : b x = r := by subst hq; exact h
theorem zn {v : Int32} (h : v = 0 ∨ v = 1) : narrow .boolean (.int v) = .int v := by rcases h with rfl | rfl <;> rfl
theorem zf {v : Int32} (h : v = 0 ∨ v = 1) : fits .boolean (.int v) = true := by rcases h with rfl | rfl <;> rfl
theorem sw_out3 {x : Int32} (h0 : ¬ x = 0) (h1 : ¬ x = 1) (h2 : ¬ x = 2) : x.toInt < 0 ∨ 2 < x.toInt := by
  have a0 := lv_neT (a := 0) h0 (by decide)
  have a1 := lv_neT (a := 1) h1 (by decide)
  have a2 := lv_neT (a := 2) h2 (by decide)
  omega
theorem sw_out4 {x : Int32} (h0 : ¬ x = 0) (h1 : ¬ x = 1) (h2 : ¬ x = 2) (h3 : ¬ x = 3) : x.toInt < 0 ∨ 3 < x.toInt := by
  have a0 := lv_neT (a := 0) h0 (by decide)
  have a1 := lv_neT (a := 1) h1 (by decide)
  have a2 := lv_neT (a := 2) h2 (by decide)
  have a3 := lv_neT (a := 3) h3 (by decide)
  omega
/-- a number that is no NaN -/
def ckn {β : Type} (v : UInt64) (k : Option β) : Option β := if v &&& 0x7fffffffffffffff ≤ 0x7ff0000000000000 then k else none
theorem cknE {β : Type} {v : UInt64} {k : Option β} {r : β} (h : ckn v k = some r) : vf_n64 v ∧ k = some r := by
  unfold ckn at h
  by_cases hc : v &&& 0x7fffffffffffffff ≤ 0x7ff0000000000000
  · exact ⟨hc, by rw [if_pos hc] at h; exact h⟩
  · rw [if_neg hc] at h; cases h
