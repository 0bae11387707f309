/-! the output buffer: numbers and words -/
theorem Rel.io {S S' : St} {n : Nat} (h : Rel S n) (e0 : ∀ f i, ¬ (f = 700 ∧ i = 48) → sr S' f i = sr S f i) (e1 : ∀ f i, ¬ wkP f i → ¬ (f = 1 ∧ i = 20) → ¬ (f = 1007 ∧ i = 197) → ¬ (f = 1 ∧ i = 22) → ¬ (f = 1029 ∧ i = 197) → si S' f i = si S f i) (e2 : ∀ i, i ∉ wkA → ¬ i = 21 → ¬ i = 201 → ¬ i = 23 → ¬ i = 209 → ai S' i = ai S i) (e3 : ∀ i, i ∉ wkA → al S' i = al S i) (e4 : ∀ i, i ∉ wkA → ar S' i = ar S i) (e5 : ln S' = ln S) (c : CI S') (co : CO S') : Rel S' n := by
  have O : ∀ i, (28 ≤ i ∧ i ≤ 47) ∨ (70 ≤ i ∧ i ≤ 195) ∨ (1 ≤ i ∧ i ≤ 19) ∨ (212 ≤ i ∧ i < n) → SameO S S' i := fun i hi => ⟨fun f => e1 _ _ (nF (by omega)) (by omega) (by omega) (by omega) (by omega), fun f => e0 f i (by omega), e2 _ (nA (by omega)) (by omega) (by omega) (by omega) (by omega), e3 _ (nA (by omega)), e4 _ (nA (by omega)), by rw [e5]⟩
  have F27 : ∀ f, ¬ f = 713 → si S' f 27 = si S f 27 := fun f hf => e1 _ _ (nF (by omega)) (by omega) (by omega) (by omega) (by omega)
  have F197 : ∀ f, (f = 1005 ∨ f = 1013 ∨ f = 1014 ∨ f = 1026 ∨ f = 1027) → si S' f 197 = si S f 197 := fun f hf => e1 _ _ (nF (by omega)) (by omega) (by omega) (by omega) (by omega)
  have F0 : ∀ f, si S' f 0 = si S f 0 := fun f => e1 _ _ (nF (by omega)) (by omega) (by omega) (by omega) (by omega)
  have AA : ∀ i, (i = 198 ∨ i = 200 ∨ i = 207 ∨ i = 208) → ai S' i = ai S i := fun i hi => e2 _ (nA (by omega)) (by omega) (by omega) (by omega) (by omega)
  refine ⟨h.hn, h.fx.agr (fun f i hf _ => e0 f i (fun z => hf z.1)) (fun i _ => by rw [e5]) (e4 69 (nA (by omega))), ?_, c, co, h.hs.agr (Nat.le_refl _) (fun i hi => O i (by omega)) (AA _ (by omega)) (AA _ (by omega)) (F0 _) (F197 _ (by omega)) (F0 _) (F197 _ (by omega)), ?_⟩
  · rw [F197 1005 (by omega), e0 _ _ (by decide), F0, F0, F197 1013 (by omega), F197 1014 (by omega)]
    exact h.mi
  · rw [AA 198 (by omega), AA 200 (by omega)]
    have C := h.cl
    obtain ⟨h1, ⟨r, h2, h3, h4⟩, h5, h6, h7, h8, h9, h10, h11, h12⟩ := C
    have h3' := h3
    unfold dyn at h3'
    have P : ∀ k, 1 ≤ k → k ≤ 16 → SameO S S' (27 + k) := fun k h1 h2 => O _ (by omega)
    refine ⟨h1, ⟨r, by rw [e0 _ _ (by decide)]; exact h2, h3, h4.agr (fun i i1 i2 => O i (by omega))⟩, by rw [F27 _ (by decide), F27 _ (by decide), F27 _ (by decide)]; exact h5, by rw [F27 _ (by decide)]; exact h6, by rw [(P 1 (by omega) (by omega)).2.2.1]; exact h7, h8.agr (Nat.le_refl _) (P 2 (by omega) (by omega)).2.2.2.2.1 (fun i i1 i2 => O i (by omega)), ?_, ?_, h11.agr (fun i i1 i2 => O i (by omega)), h12⟩
    · intro m u hm hu
      rw [(P 3 (by omega) (by omega)).2.2.1, (P 4 (by omega) (by omega)).2.2.1, (P 5 (by omega) (by omega)).2.2.1]
      exact h9 m u hm hu
    · refine ⟨by rw [(P 6 (by omega) (by omega)).1, (P 6 (by omega) (by omega)).1, (P 6 (by omega) (by omega)).1]; exact h10.1, fun q hq => ?_⟩
      obtain ⟨⟨j, g1, g2, g3, g4, g5, g6⟩, g7, g8, g9⟩ := h10.2 q hq
      have g2' := g2
      obtain ⟨a, b⟩ := g2'
      have D := O j (by omega)
      have D1 := O (j + 1) (by omega)
      exact ⟨⟨j, by rw [(P 7 (by omega) (by omega)).2.2.2.2.1]; exact g1, g2, by rw [D.2.1]; exact g3, by rw [D1.2.2.2.2.2]; exact g4, by rw [D.1]; exact g5, by rw [D1.2.2.1]; exact g6⟩, by rw [(P 8 (by omega) (by omega)).2.2.1]; exact g7, by rw [(P 9 (by omega) (by omega)).2.2.1]; exact g8, by rw [(P 10 (by omega) (by omega)).2.2.1]; exact g9⟩

theorem nI_div {a b : Nat} (ha : a < 2 ^ 31) (hb : b < 2 ^ 31) : nI a / nI b = nI (a / b) := by
  have hd : a / b ≤ a := Nat.div_le_self a b
  apply Int32.toInt_inj.mp
  rw [Int32.toInt_div, nI_toInt ha, nI_toInt hb, nI_toInt (by omega), ← Int.ofNat_tdiv, Int.bmod_def]
  generalize a / b = c at hd
  split <;> omega
theorem lN_div {a b : Nat} (ha : a < 2 ^ 63) (hb : b < 2 ^ 63) : lN a / lN b = lN (a / b) := by
  have hd : a / b ≤ a := Nat.div_le_self a b
  apply Int64.toInt_inj.mp
  rw [Int64.toInt_div, lN_t ha, lN_t hb, lN_t (by omega), ← Int.ofNat_tdiv, Int.bmod_def]
  generalize a / b = c at hd
  split <;> omega
theorem nI_mod10 {a : Nat} (ha : a < 2 ^ 31) : nI a - nI a / 10 * 10 = nI (a % 10) := by
  rw [show (10 : Int32) = nI 10 from rfl, nI_div ha (by omega), nI_mul, nI_sub (by omega)]
  exact congrArg nI (by omega)
theorem lN_mod27 {a : Nat} (ha : a < 2 ^ 63) : lN a - lN a / 27 * 27 = lN (a % 27) := by
  rw [show (27 : Int64) = lN 27 from rfl, lN_div ha (by omega)]
  have e : lN (a / 27) * lN 27 = lN (a / 27 * 27) := (Int64.ofNat_mul _ _).symm
  rw [e]
  apply Int64.toInt_inj.mp
  rw [Int64.toInt_sub, lN_t ha, lN_t (by omega), lN_t (by omega), Int.bmod_def]
  split <;> omega
theorem lN_i32 {d : Nat} (h : d < 2 ^ 31) : (lN d).toInt32 = nI d := by
  apply Int32.toInt_inj.mp
  rw [Int64.toInt_toInt32, lN_t (by omega), nI_toInt h, Int.bmod_def]
  split <;> omega
/-- what the class's buffer holds, what the model's -/
def OC (S : St) (l : List Nat) : Prop := si S 1 22 = nI l.length ∧ ∀ i, i < l.length → ai S 23 i = nI (l.getD i 0)
def OM (S : St) (l : List Nat) : Prop := si S 1029 197 = nI l.length ∧ ∀ i, i < l.length → ai S 209 i = nI (l.getD i 0)
def OcF (S T : St) : Prop := (∀ f i, sr T f i = sr S f i) ∧ (∀ f i, ¬ (f = 1 ∧ i = 22) → si T f i = si S f i) ∧ (∀ i, ¬ i = 23 → ai T i = ai S i) ∧ al T = al S ∧ ar T = ar S ∧ ln T = ln S
def OmF (S T : St) : Prop := (∀ f i, sr T f i = sr S f i) ∧ (∀ f i, ¬ (f = 1029 ∧ i = 197) → si T f i = si S f i) ∧ (∀ i, ¬ i = 209 → ai T i = ai S i) ∧ al T = al S ∧ ar T = ar S ∧ ln T = ln S
theorem OcF.rf (S : St) : OcF S S := ⟨fun _ _ => rfl, fun _ _ _ => rfl, fun _ _ => rfl, rfl, rfl, rfl⟩
theorem OmF.rf (S : St) : OmF S S := ⟨fun _ _ => rfl, fun _ _ _ => rfl, fun _ _ => rfl, rfl, rfl, rfl⟩
theorem OcF.tr {S T U : St} (h : OcF S T) (g : OcF T U) : OcF S U := ⟨fun f i => (g.1 f i).trans (h.1 f i), fun f i a => (g.2.1 f i a).trans (h.2.1 f i a), fun i a => (g.2.2.1 i a).trans (h.2.2.1 i a), g.2.2.2.1.trans h.2.2.2.1, g.2.2.2.2.1.trans h.2.2.2.2.1, g.2.2.2.2.2.trans h.2.2.2.2.2⟩
theorem OmF.tr {S T U : St} (h : OmF S T) (g : OmF T U) : OmF S U := ⟨fun f i => (g.1 f i).trans (h.1 f i), fun f i a => (g.2.1 f i a).trans (h.2.1 f i a), fun i a => (g.2.2.1 i a).trans (h.2.2.1 i a), g.2.2.2.1.trans h.2.2.2.1, g.2.2.2.2.1.trans h.2.2.2.2.1, g.2.2.2.2.2.trans h.2.2.2.2.2⟩
theorem OcF.fx {S T : St} (h : OcF S T) (x : FxF S) : FxF T := x.agr (fun f i _ _ => h.1 f i) (fun i _ => by rw [h.2.2.2.2.2]) (by rw [h.2.2.2.2.1])
theorem OmF.fx {S T : St} (h : OmF S T) (x : FxF S) : FxF T := x.agr (fun f i _ _ => h.1 f i) (fun i _ => by rw [h.2.2.2.2.2]) (by rw [h.2.2.2.2.1])
theorem OcF.same {S T : St} (h : OcF S T) {i : Nat} (h1 : ¬ i = 22) (h2 : ¬ i = 23) : SameO S T i := ⟨fun f => h.2.1 f i (fun z => h1 z.2), fun f => h.1 f i, h.2.2.1 i h2, by rw [h.2.2.2.1], by rw [h.2.2.2.2.1], by rw [h.2.2.2.2.2]⟩
theorem getD_app {l : List Nat} {v i : Nat} : (l ++ [v]).getD i 0 = if i < l.length then l.getD i 0 else if i = l.length then v else 0 := by
  simp only [List.getD_eq_getElem?_getD]
  by_cases h : i < l.length
  · rw [if_pos h, List.getElem?_append_left h]
  · rw [if_neg h, List.getElem?_append_right (by omega)]
    by_cases e : i = l.length
    · rw [if_pos e, e]; simp
    · rw [if_neg e, List.getElem?_eq_none (by simp; omega)]; rfl
theorem byte128 : ∀ v, v < 128 → (Int32.toInt8 (nI v).toInt8.toInt32).toInt32 = nI v := by decide +kernel
section Ad
variable {F : Nat} {S : St}
theorem e_add {l : List Nat} (hx : FxF S) (o : OC S l) {v : Nat} (hv : v < 128) (hl : l.length < 2040) : ∃ T, f_X0_add F S 22 (nI v) = some T ∧ OcF S T ∧ OC T (l ++ [v]) := by
  have r : sr S 0 22 = some 23 := hx.1 (0, 22, 23) (by decide)
  have l23 : ln S 23 = 2040 := hx.2.1 (23, 2040) (by decide)
  refine ⟨ui (uai S 23 l.length (nI v)) 1 22 (nI (l.length + 1)), ?_, ⟨fun _ _ => rfl, fun f i a => by rw [si_ui, if_neg a]; rfl, fun i a => by rw [ai_ui, ai_uaiN _ a], rfl, rfl, rfl⟩, ?_, fun i hi => ?_⟩
  · unfold f_X0_add
    rw [o.1, if_neg (nI_pos (by omega)), r, ob_some, l23, if_neg (nI_ge (by omega) (by omega)), ob_some, l23, cki_nI (by omega) (by omega), nI_clamp (by omega), byte128 v hv]
    simp only [lt_eq]
    rw [si_uai, o.1, nI_1]
  · rw [si_ui, if_pos ⟨rfl, rfl⟩, List.length_append]
    rfl
  · rw [List.length_append] at hi
    have hi' : i < l.length + 1 := hi
    rw [ai_ui, ai_uaiE, getD_app]
    by_cases z : i = l.length
    · rw [z, upd_e, if_neg (by omega), if_pos rfl]
    · rw [upd_n z, if_pos (by omega)]
      exact o.2 i (by omega)
theorem m_write {l : List Nat} (hx : FxF S) (o : OM S l) {v : Nat} (hv : v < 128) (hl : l.length < 3000) : ∃ T, f_X11_write F S 197 (nI v) = some T ∧ OmF S T ∧ OM T (l ++ [v]) := by
  refine ⟨ui (uai S 209 l.length (nI v)) 1029 197 (nI (l.length + 1)), ?_, ⟨fun _ _ => rfl, fun f i a => by rw [si_ui, if_neg a]; rfl, fun i a => by rw [ai_ui, ai_uaiN _ a], rfl, rfl, rfl⟩, ?_, fun i hi => ?_⟩
  · unfold f_X11_write
    rw [hx.r1028_197, ob_some, o.1, hx.l209, cki_nI (by omega) (by omega), nI_clamp (by omega), byte128 v hv]
    simp only [lt_eq]
    rw [si_uai, o.1, nI_1]
  · rw [si_ui, if_pos ⟨rfl, rfl⟩, List.length_append]
    rfl
  · rw [List.length_append] at hi
    have hi' : i < l.length + 1 := hi
    rw [ai_ui, ai_uaiE, getD_app]
    by_cases z : i = l.length
    · rw [z, upd_e, if_neg (by omega), if_pos rfl]
    · rw [upd_n z, if_pos (by omega)]
      exact o.2 i (by omega)
end Ad
/-! digits -/
def cD (v : Nat) : Nat → Bool → List Nat
  | 0, _ => []
  | k + 1, b => if b = true ∨ ¬ v / 10 ^ k % 10 = 0 ∨ k = 0 then (48 + v / 10 ^ k % 10) :: cD v k true else cD v k false
def rD (v : Nat) : Nat → List Nat
  | 0 => []
  | k + 1 => (48 + v / 10 ^ k % 10) :: rD v k
theorem cD_t (v : Nat) : ∀ k, cD v k true = rD v k := by
  intro k
  induction k with
  | zero => rfl
  | succ k ih =>
    unfold cD rD
    rw [if_pos (Or.inl rfl), ih]
theorem cD_drop {v k : Nat} (hk : 1 ≤ k) (h : v < 10 ^ k) : cD v (k + 1) false = cD v k false := by
  rw [cD, if_neg]
  rw [Nat.div_eq_of_lt h]
  rintro (y | y | y)
  · cases y
  · exact y rfl
  · omega
theorem rD_len (v : Nat) : ∀ k, (rD v k).length = k := by
  intro k
  induction k with
  | zero => rfl
  | succ k ih => unfold rD; rw [List.length_cons, ih]
theorem rD_lt (v : Nat) : ∀ k, ∀ x ∈ rD v k, x < 128 := by
  intro k
  induction k with
  | zero => intro x hx; cases hx
  | succ k ih =>
    intro x hx
    unfold rD at hx
    rcases List.mem_cons.mp hx with h | h
    · have := Nat.mod_lt (v / 10 ^ k) (show 0 < 10 by omega)
      omega
    · exact ih x h
/-- the decimal digits of a number -/
theorem dec_ex {v : Nat} (hv : v < 100000) : ∃ j, j ≤ 4 ∧ v / 10 ^ j < 10 ∧ (∀ i, i < j → ¬ v / 10 ^ i < 10) ∧ cD v 5 false = rD v (j + 1) ∧ (v < 1000 → j ≤ 2) := by
  have fin : ∀ j, v / 10 ^ j < 10 → (∀ i, i < j → ¬ v / 10 ^ i < 10) → cD v (j + 1) false = rD v (j + 1) := by
    intro j h1 h2
    rw [cD, rD, if_pos, cD_t]
    by_cases z : j = 0
    · exact Or.inr (Or.inr z)
    · refine Or.inr (Or.inl ?_)
      have := h2 (j - 1) (by omega)
      obtain ⟨k, rfl⟩ : ∃ k, j = k + 1 := ⟨j - 1, by omega⟩
      rw [Nat.add_sub_cancel] at this
      rw [Nat.pow_succ, ← Nat.div_div_eq_div_mul] at h1 ⊢
      omega
  have e1 : (10 : Nat) ^ 1 = 10 := rfl
  have e2 : (10 : Nat) ^ 2 = 100 := rfl
  have e3 : (10 : Nat) ^ 3 = 1000 := rfl
  have e4 : (10 : Nat) ^ 4 = 10000 := rfl
  have e0 : (10 : Nat) ^ 0 = 1 := rfl
  by_cases h1 : v < 10
  · have f := fin 0 (by omega) (fun i hi => by omega)
    refine ⟨0, by omega, by omega, fun i hi => by omega, ?_, fun _ => by omega⟩
    rw [cD_drop (k := 4) (by omega) (by omega), cD_drop (k := 3) (by omega) (by omega), cD_drop (k := 2) (by omega) (by omega), cD_drop (k := 1) (by omega) (by omega)]
    exact f
  by_cases h2 : v < 100
  · have lo : ∀ i, i < 1 → ¬ v / 10 ^ i < 10 := fun i hi => by
      rw [show i = 0 by omega]; omega
    have f := fin 1 (by omega) lo
    refine ⟨1, by omega, by omega, lo, ?_, fun _ => by omega⟩
    rw [cD_drop (k := 4) (by omega) (by omega), cD_drop (k := 3) (by omega) (by omega), cD_drop (k := 2) (by omega) (by omega)]
    exact f
  by_cases h3 : v < 1000
  · have lo : ∀ i, i < 2 → ¬ v / 10 ^ i < 10 := fun i hi => by
      rcases (show i = 0 ∨ i = 1 by omega) with rfl | rfl <;> omega
    have f := fin 2 (by omega) lo
    refine ⟨2, by omega, by omega, lo, ?_, fun _ => by omega⟩
    rw [cD_drop (k := 4) (by omega) (by omega), cD_drop (k := 3) (by omega) (by omega)]
    exact f
  by_cases h4 : v < 10000
  · have lo : ∀ i, i < 3 → ¬ v / 10 ^ i < 10 := fun i hi => by
      rcases (show i = 0 ∨ i = 1 ∨ i = 2 by omega) with rfl | rfl | rfl <;> omega
    have f := fin 3 (by omega) lo
    refine ⟨3, by omega, by omega, lo, ?_, fun _ => by omega⟩
    rw [cD_drop (k := 4) (by omega) (by omega)]
    exact f
  · have lo : ∀ i, i < 4 → ¬ v / 10 ^ i < 10 := fun i hi => by
      rcases (show i = 0 ∨ i = 1 ∨ i = 2 ∨ i = 3 by omega) with rfl | rfl | rfl | rfl <;> omega
    exact ⟨4, by omega, by omega, lo, fin 4 (by omega) lo, fun _ => by omega⟩
/-- the unit of a digit -/
def un (k : Nat) : Nat := if k = 0 then 0 else 10 ^ (k - 1)
theorem un_s (k : Nat) : un (k + 1) = 10 ^ k := by unfold un; rw [if_neg (by omega), Nat.add_sub_cancel]
theorem un_div (k : Nat) : 10 ^ k / 10 = un k := by
  unfold un
  by_cases z : k = 0
  · rw [if_pos z, z]
  · rw [if_neg z]
    obtain ⟨j, rfl⟩ : ∃ j, k = j + 1 := ⟨k - 1, by omega⟩
    rw [Nat.pow_succ, Nat.mul_div_cancel _ (by omega), Nat.add_sub_cancel]
theorem ten_le {k : Nat} (h : k ≤ 4) : 1 ≤ 10 ^ k ∧ 10 ^ k ≤ 10000 := by
  rcases (show k = 0 ∨ k = 1 ∨ k = 2 ∨ k = 3 ∨ k = 4 by omega) with rfl | rfl | rfl | rfl | rfl <;> exact ⟨by decide, by decide⟩
section Nu
variable {F : Nat} {S : St}
theorem e_addNumber {l : List Nat} (hx : FxF S) (o : OC S l) {v : Nat} (hv : v < 100000) (hl : l.length + (cD v 5 false).length ≤ 2040) (hF : 1000 ≤ F) : ∃ T, f_X0_addNumber F S 22 (nI v) = some T ∧ OcF S T ∧ OC T (l ++ cD v 5 false) := by
  have loop : ∀ k, k ≤ 5 → ∀ fu T m (b : Bool), k < fu → OcF S T → OC T m → m.length + (cD v k b).length ≤ 2040 → ∃ T', f_X0_addNumber_L6 F fu T 22 (nI v) (if b = true then 1 else 0) (nI (un k)) = some T' ∧ OcF S T' ∧ OC T' (m ++ cD v k b) := by
    intro k
    induction k with
    | zero =>
      intro _ fu T m b hfu c o hm
      obtain ⟨fu, rfl⟩ : ∃ f', fu = f' + 1 := ⟨fu - 1, by omega⟩
      refine ⟨T, ?_, c, by rw [show cD v 0 b = [] from rfl, List.append_nil]; exact o⟩
      unfold f_X0_addNumber_L6
      rw [show nI (un 0) = 0 from rfl, if_pos (by decide)]
    | succ k ih =>
      intro hk fu T m b hfu c o hm
      obtain ⟨fu, rfl⟩ : ∃ f', fu = f' + 1 := ⟨fu - 1, by omega⟩
      obtain ⟨t1, t2⟩ := ten_le (k := k) (by omega)
      have hxT := c.fx hx
      have dl : v / 10 ^ k ≤ v := Nat.div_le_self _ _
      have dm := Nat.mod_lt (v / 10 ^ k) (show 0 < 10 by omega)
      have u10 : nI (10 ^ k) / 10 = nI (un k) := by rw [show (10 : Int32) = nI 10 from rfl, nI_div (by omega) (by omega), un_div]
      have x15 : (nI v / nI (10 ^ k)) - (nI v / nI (10 ^ k)) / 10 * 10 = nI (v / 10 ^ k % 10) := by rw [nI_div (by omega) (by omega), nI_mod10 (by omega)]
      -- the digit is written
      have wr : cD v (k + 1) b = (48 + v / 10 ^ k % 10) :: cD v k true → ∃ T', f_X0_addNumber_L33 F (fun a0 a1 a2 a3 a4 => f_X0_addNumber_L6 F fu a0 a1 a2 a3 a4) T 22 (nI v) (nI (10 ^ k)) (nI (v / 10 ^ k % 10)) = some T' ∧ OcF S T' ∧ OC T' (m ++ cD v (k + 1) b) := by
        intro e
        rw [e] at hm ⊢
        rw [List.length_cons] at hm
        obtain ⟨T1, q1, q2, q3⟩ := e_add (F := F) hxT o (v := 48 + v / 10 ^ k % 10) (by omega) (by omega)
        obtain ⟨T', r1, r2, r3⟩ := ih (by omega) fu T1 (m ++ [48 + v / 10 ^ k % 10]) true (by omega) (c.tr q2) q3 (by rw [List.length_append]; show m.length + 1 + _ ≤ 2040; omega)
        refine ⟨T', ?_, r2, by rw [List.append_assoc] at r3; exact r3⟩
        unfold f_X0_addNumber_L33 f_X0_addNumber_L38 f_X0_addNumber_L52
        rw [if_neg (show ¬ (1 : Int32) = 0 by decide), show (48 : Int32) = nI 48 from rfl, nI_add, q1, ob_some, u10, lt_eq]
        rw [if_pos rfl] at r1
        exact r1
      unfold f_X0_addNumber_L6
      rw [un_s, if_neg (show ¬ nI (10 ^ k) < 1 from le_nlt.mp (nI_le (a := 1) t1 (by omega))), ck_t (nI_ne0 (by omega) (by omega)), x15]
      simp only [lt_eq]
      by_cases hb : b = true
      · rw [hb, if_pos rfl, if_pos (show ¬ (1 : Int32) = 0 by decide)]
        rw [hb] at wr
        exact wr (by rw [cD, if_pos (Or.inl rfl)])
      have hb' : b = false := by cases b with
        | false => rfl
        | true => exact absurd rfl hb
      rw [if_neg hb, if_neg (show ¬ ¬ (0 : Int32) = 0 from fun y => y rfl)]
      by_cases z : v / 10 ^ k % 10 = 0
      · rw [if_neg (show ¬ ¬ nI (v / 10 ^ k % 10) = 0 from fun y => y (by rw [z]; rfl))]
        by_cases zk : k = 0
        · rw [if_neg (show ¬ ¬ nI (10 ^ k) = 1 from fun y => y (by rw [zk]; rfl))]
          exact wr (by rw [cD, if_pos (Or.inr (Or.inr zk))])
        · have e : cD v (k + 1) b = cD v k false := by
            rw [cD, if_neg]
            rintro (y | y | y)
            · exact hb y
            · exact y z
            · exact zk y
          rw [if_pos (show ¬ nI (10 ^ k) = 1 from fun y => by
            have := (nI_eq (b := 1) (by omega) (by omega)).mp y
            obtain ⟨j, rfl⟩ : ∃ j, k = j + 1 := ⟨k - 1, by omega⟩
            rw [Nat.pow_succ] at this
            omega), e]
          rw [e] at hm
          obtain ⟨T', r1, r2, r3⟩ := ih (by omega) fu T m false (by omega) c o hm
          refine ⟨T', ?_, r2, r3⟩
          unfold f_X0_addNumber_L38 f_X0_addNumber_L52
          rw [if_pos rfl, u10, lt_eq]
          rw [if_neg (show ¬ false = true by decide)] at r1
          exact r1
      · rw [if_pos (show ¬ nI (v / 10 ^ k % 10) = 0 from nI_ne0 (by omega) (by omega))]
        exact wr (by rw [cD, if_pos (Or.inr (Or.inl z))])
  unfold f_X0_addNumber
  exact loop 5 (by omega) F S l false (by omega) (OcF.rf S) o hl
theorem m_writeNumber {l : List Nat} (hx : FxF S) (o : OM S l) {v : Nat} (hv : v < 100000) (hl : l.length + (cD v 5 false).length ≤ 3000) (hF : 1000 ≤ F) : ∃ T, f_X11_writeNumber F S 197 (nI v) = some T ∧ OmF S T ∧ OM T (l ++ cD v 5 false) := by
  obtain ⟨j, j1, j2, j3, j4, -⟩ := dec_ex hv
  rw [j4] at hl ⊢
  rw [rD_len] at hl
  have digs : ∀ k, k ≤ 5 → ∀ fu T m, k < fu → OmF S T → OM T m → m.length + k ≤ 3000 → ∃ T', f_X11_writeNumber_L20 F fu T 197 (nI v) (nI (un k)) = some T' ∧ OmF S T' ∧ OM T' (m ++ rD v k) := by
    intro k
    induction k with
    | zero =>
      intro _ fu T m hfu c o hm
      obtain ⟨fu, rfl⟩ : ∃ f', fu = f' + 1 := ⟨fu - 1, by omega⟩
      refine ⟨T, ?_, c, by rw [show rD v 0 = [] from rfl, List.append_nil]; exact o⟩
      unfold f_X11_writeNumber_L20
      rw [show nI (un 0) = 0 from rfl, if_pos (by decide)]
    | succ k ih =>
      intro hk fu T m hfu c o hm
      obtain ⟨fu, rfl⟩ : ∃ f', fu = f' + 1 := ⟨fu - 1, by omega⟩
      obtain ⟨t1, t2⟩ := ten_le (k := k) (by omega)
      have hxT := c.fx hx
      have dl : v / 10 ^ k ≤ v := Nat.div_le_self _ _
      have dm := Nat.mod_lt (v / 10 ^ k) (show 0 < 10 by omega)
      have u10 : nI (10 ^ k) / 10 = nI (un k) := by rw [show (10 : Int32) = nI 10 from rfl, nI_div (by omega) (by omega), un_div]
      have x15 : (nI v / nI (10 ^ k)) - (nI v / nI (10 ^ k)) / 10 * 10 = nI (v / 10 ^ k % 10) := by rw [nI_div (by omega) (by omega), nI_mod10 (by omega)]
      obtain ⟨T1, q1, q2, q3⟩ := m_write (F := F) hxT o (v := 48 + v / 10 ^ k % 10) (by omega) (by omega)
      obtain ⟨T', r1, r2, r3⟩ := ih (by omega) fu T1 (m ++ [48 + v / 10 ^ k % 10]) (by omega) (c.tr q2) q3 (by rw [List.length_append]; show m.length + 1 + _ ≤ 3000; omega)
      refine ⟨T', ?_, r2, by rw [List.append_assoc] at r3; exact r3⟩
      unfold f_X11_writeNumber_L20
      rw [un_s, if_neg (show ¬ nI (10 ^ k) ≤ 0 from nI_ge (a := 0) (by omega) (by omega)), ck_t (nI_ne0 (by omega) (by omega)), x15, show (48 : Int32) = nI 48 from rfl, nI_add, q1, ob_some, u10, lt_eq]
      exact r1
  have find : ∀ d i fu, i + d = j → d < fu → f_X11_writeNumber_L2 F fu S 197 (nI v) (nI (10 ^ i)) = f_X11_writeNumber_L20 F F S 197 (nI v) (nI (un (j + 1))) := by
    intro d
    induction d with
    | zero =>
      intro i fu hi hfu
      obtain ⟨fu, rfl⟩ : ∃ f', fu = f' + 1 := ⟨fu - 1, by omega⟩
      have : i = j := by omega
      subst this
      obtain ⟨t1, t2⟩ := ten_le (k := i) (by omega)
      have dl : v / 10 ^ i ≤ v := Nat.div_le_self _ _
      unfold f_X11_writeNumber_L2
      rw [ck_t (nI_ne0 (by omega) (by omega)), nI_div (by omega) (by omega), if_pos (show nI (v / 10 ^ i) < 10 from nI_lt (b := 10) j2 (by omega)), un_s]
    | succ d ih =>
      intro i fu hi hfu
      obtain ⟨fu, rfl⟩ : ∃ f', fu = f' + 1 := ⟨fu - 1, by omega⟩
      obtain ⟨t1, t2⟩ := ten_le (k := i) (by omega)
      have dl : v / 10 ^ i ≤ v := Nat.div_le_self _ _
      unfold f_X11_writeNumber_L2
      rw [ck_t (nI_ne0 (by omega) (by omega)), nI_div (by omega) (by omega), if_neg (show ¬ nI (v / 10 ^ i) < 10 from fun y => j3 i (by omega) ((nI_ltI (b := 10) (by omega) (by omega)).mp y)), lt_eq, show nI (10 ^ i) * 10 = nI (10 ^ (i + 1)) from by rw [show (10 : Int32) = nI 10 from rfl, nI_mul, Nat.pow_succ]]
      exact ih (i + 1) fu (by omega) (by omega)
  unfold f_X11_writeNumber
  rw [show (1 : Int32) = nI (10 ^ 0) from rfl, find j 0 F (by omega) (by omega)]
  exact digs (j + 1) (by omega) F S l (by omega) (OmF.rf S) o (by omega)
end Nu
