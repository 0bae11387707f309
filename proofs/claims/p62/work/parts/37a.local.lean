/-! a statement inside a text -/
/-- w lies in the text f, L at p; it ends in ';', and a word or the end follows -/
def Em (f : PD) (L p : Nat) (w : List Int32) : Prop := p + w.length ≤ L ∧ (∀ i, i < w.length → f (p + i) = chL w i) ∧ 1 ≤ w.length ∧ chL w (w.length - 1) = 59 ∧ (p + w.length = L ∨ letE (byK f (p + w.length)) = true)
theorem fnd_loc {q q' : Nat → Bool} {p W : Nat} (h : ∀ i, i < W → q (p + i) = q' i) : ∀ d' d k, W ≤ k + d' → W ≤ k + d → (∃ x, k ≤ x ∧ x < W ∧ q' x = true) → fndE q d (p + k) = p + fndE q' d' k := by
  intro d'
  induction d' with
  | zero =>
    intro d k h1 h2 h3
    obtain ⟨x, a, b, -⟩ := h3
    omega
  | succ d' ih =>
    intro d k h1 h2 h3
    obtain ⟨x, a, b, c⟩ := h3
    obtain ⟨e, rfl⟩ : ∃ e, d = e + 1 := ⟨d - 1, by omega⟩
    unfold fndE
    rw [h k (by omega)]
    by_cases z : q' k = true
    · rw [if_pos z, if_pos z]
    · rw [if_neg z, if_neg z, Nat.add_assoc]
      exact ih e (k + 1) (by omega) (by omega) ⟨x, by
        by_cases y : x = k
        · rw [y] at c; exact absurd c z
        · omega, b, c⟩
theorem enE_le {f : PD} {L s : Nat} (h : s ≤ L) : s ≤ enE f L s ∧ enE f L s ≤ L := by rw [← en_E]; exact enK_le h
section Lo
variable {f : PD} {L p : Nat} {w : List Int32}
theorem by_L (h : Em f L p w) {i : Nat} (hi : i < w.length) : byK f (p + i) = byK (chL w) i := by unfold byK; rw [h.2.1 i hi]
theorem last_L (h : Em f L p w) : byK (chL w) (w.length - 1) = 59 := by unfold byK; rw [h.2.2.2.1]; decide
theorem kd_L (h : Em f L p w) {i : Nat} (hi : i < w.length) : kdE f L (p + i) = kdE (chL w) w.length i := by
  have := h.1
  unfold kdE
  rw [if_neg (show ¬ L ≤ p + i by omega), if_neg (show ¬ w.length ≤ i by omega), by_L h hi]
theorem we_L (h : Em f L p w) {i : Nat} (hi : i < w.length) : weE f L (p + i) = p + weE (chL w) w.length i := by
  have := h.1
  unfold weE
  refine fnd_loc (W := w.length) (fun k hk => by rw [by_L h hk]) _ _ _ (by omega) (by omega) ⟨w.length - 1, by omega, by omega, ?_⟩
  rw [last_L h]; decide
theorem de_L (h : Em f L p w) {i : Nat} (hi : i < w.length) : deE f L (p + i) = p + deE (chL w) w.length i := by
  have := h.1
  unfold deE
  refine fnd_loc (W := w.length) (fun k hk => by rw [by_L h hk]) _ _ _ (by omega) (by omega) ⟨w.length - 1, by omega, by omega, ?_⟩
  rw [last_L h]; decide
theorem en_L (h : Em f L p w) {i : Nat} (hi : i < w.length) : enE f L (p + i) = p + enE (chL w) w.length i := by
  have := h.1
  unfold enE
  rw [if_neg (show ¬ L ≤ p + i by omega), if_neg (show ¬ w.length ≤ i by omega), by_L h hi, we_L h hi, de_L h hi]
  by_cases a : letE (byK (chL w) i) = true
  · rw [if_pos a, if_pos a]
  rw [if_neg a, if_neg a]
  by_cases b : digE (byK (chL w) i) = true
  · rw [if_pos b, if_pos b]
  · rw [if_neg b, if_neg b, Nat.add_assoc]
theorem nb_L (h : Em f L p w) {i : Nat} (hi : i ≤ w.length) : nbE f L (p + i) = p + nbE (chL w) w.length i := by
  have h1 := h.1
  by_cases z : i < w.length
  · unfold nbE
    refine fnd_loc (W := w.length) (fun k hk => by rw [by_L h hk]) _ _ _ (by omega) (by omega) ⟨w.length - 1, by omega, by omega, ?_⟩
    rw [last_L h]; decide
  · have e : i = w.length := by omega
    have l : nbE (chL w) w.length i = i := by
      unfold nbE
      rw [e, Nat.sub_self]
      rfl
    rw [l, e]
    unfold nbE
    rcases h.2.2.2.2 with y | y
    · rw [y, Nat.sub_self]; rfl
    · by_cases x : p + w.length = L
      · rw [x, Nat.sub_self]; rfl
      · obtain ⟨d, hd⟩ : ∃ d, L - (p + w.length) = d + 1 := ⟨L - (p + w.length) - 1, by omega⟩
        rw [hd]
        unfold fndE
        rw [if_pos]
        have lb := (letE_i _).mp y
        have : ¬ blE (byK f (p + w.length)) = true := fun b => by
          rcases (blE_i _).mp b with c | c <;> rw [c] at lb <;> exact absurd lb (by unfold letB; decide)
        revert this
        cases blE (byK f (p + w.length)) <;> simp
theorem nx_L (h : Em f L p w) {i : Nat} (hi : i < w.length) : nxE f L (p + i) = p + nxE (chL w) w.length i := by
  have := (enE_le (f := chL w) (L := w.length) (s := i) (by omega)).2
  unfold nxE
  rw [en_L h hi, nb_L h this]
theorem all_c {p q : Nat → Bool} {n : Nat} (h : ∀ k, k < n → p k = q k) : (List.range n).all p = (List.range n).all q := by
  have : ∀ (l : List Nat), (∀ x ∈ l, p x = q x) → l.all p = l.all q := by
    intro l
    induction l with
    | nil => intro _; rfl
    | cons a l ih =>
      intro hh
      rw [List.all_cons, List.all_cons, hh a (List.mem_cons_self ..), ih (fun x hx => hh x (List.mem_cons_of_mem _ hx))]
  exact this _ (fun x hx => h x (List.mem_range.mp hx))
theorem tx_L (h : Em f L p w) {i : Nat} (hi : i < w.length) (j : Nat) : txE f L (p + i) j = txE (chL w) w.length i j := by
  have en := (enE_le (f := chL w) (L := w.length) (s := i) (by omega))
  unfold txE
  rw [kd_L h hi, en_L h hi, show p + enE (chL w) w.length i - (p + i) = enE (chL w) w.length i - i by omega]
  by_cases z : enE (chL w) w.length i - i = txL j
  · rw [all_c (q := fun k => chL w (i + k) == txT j k) (fun k hk => by rw [show p + i + k = p + (i + k) by omega, h.2.1 _ (by omega)])]
  · have : (enE (chL w) w.length i - i == txL j) = false := beq_eq_false_iff_ne.mpr z
    rw [this, Bool.false_and, Bool.false_and]
theorem nm_L (h : Em f L p w) {i : Nat} (hi : i < w.length) : nmE f L (p + i) = nmE (chL w) w.length i := by
  have en := (enE_le (f := chL w) (L := w.length) (s := i) (by omega))
  unfold nmE
  rw [kd_L h hi, en_L h hi, show p + enE (chL w) w.length i - (p + i) = enE (chL w) w.length i - i by omega, all_c (q := fun j => !txE (chL w) w.length i j) (fun k _ => by rw [tx_L h hi])]
theorem sy_L (h : Em f L p w) {i : Nat} (hi : i < w.length) (c : Int32) : syE f L (p + i) c = syE (chL w) w.length i c := by
  unfold syE
  rw [kd_L h hi, by_L h hi]
theorem nc_L (h : Em f L p w) {i : Nat} : ∀ c, i + c ≤ w.length → ncK f (p + i) c = ncK (chL w) i c := by
  intro c hc
  unfold ncK
  exact runN_e (fun k v hk => by rw [show p + i + k = p + (i + k) by omega, by_L h (by omega)])
theorem nu_L (h : Em f L p w) {i : Nat} (hi : i < w.length) : nuE f L (p + i) = nuE (chL w) w.length i := by
  have en := (enE_le (f := chL w) (L := w.length) (s := i) (by omega))
  unfold nuE
  rw [en_L h hi, show p + enE (chL w) w.length i - (p + i) = enE (chL w) w.length i - i by omega, nc_L h _ (by omega)]
theorem kd_lt {s : Nat} (h : ¬ kdE f L s = 0) : s < L := by
  by_cases z : L ≤ s
  · exact absurd (by unfold kdE; rw [if_pos z]) h
  · omega
theorem tx_lt {s j : Nat} (h : txE f L s j = true) : s < L := kd_lt (f := f) (by
  unfold txE at h
  rw [Bool.and_eq_true, beq_iff_eq] at h
  have := h.1
  omega)
theorem nm_lt {s : Nat} (h : nmE f L s = true) : s < L := kd_lt (f := f) (by
  unfold nmE at h
  rw [Bool.and_eq_true, beq_iff_eq] at h
  have := h.1
  omega)
theorem sy_lt {s : Nat} {c : Int32} (h : syE f L s c = true) : s < L := kd_lt (f := f) (by
  unfold syE at h
  rw [Bool.and_eq_true, beq_iff_eq] at h
  have := h.1
  omega)
end Lo
/-! names of two letters -/
/-- row o names letter a and letter number j -/
def nm2 (D : PD) (o : Nat) (a : Int32) (j : Nat) : Prop := ∀ x, x < 6 → D (o + x) = if x = 0 then a else if x = 1 then nI (97 + j) else 0
theorem fsE_at {p : Nat → Bool} {j : Nat} : ∀ c i, (∀ k, i ≤ k → k < i + c → (p k = true ↔ k = j)) → fsE p c i = if i ≤ j ∧ j < i + c then some j else none := by
  intro c
  induction c with
  | zero => intro i _; rw [if_neg (by omega)]; rfl
  | succ c ih =>
    intro i h
    unfold fsE
    by_cases z : i = j
    · rw [if_pos ((h i (by omega) (by omega)).mpr z), if_pos (by omega), z]
    · rw [if_neg (fun y => z ((h i (by omega) (by omega)).mp y)), ih (i + 1) (fun k a b => h k (by omega) (by omega))]
      by_cases y : i + 1 ≤ j ∧ j < i + 1 + c
      · rw [if_pos y, if_pos (by omega)]
      · rw [if_neg y, if_neg (by omega)]
/-- a look-up among names of one first letter -/
theorem lk_2 {D f : PD} {L s p n j : Nat} {a : Int32} (hn : kN D (3 + p) = n) (hr : ∀ i, i < n → nm2 D (kdA p + kdB p * i + kdO p) a i) (hK : enE f L s - s = 2) (h0 : f s = a) (h1 : f (s + 1) = nI (97 + j)) (hj : j < 1000) (hn2 : n < 1000) : lkE D f L s p = if j < n then some j else none := by
  unfold lkE
  rw [hn, fsE_at (j := j) n 0 (fun k _ hk => ?_)]
  · simp only [Nat.zero_le, true_and, Nat.zero_add]
  rw [hK]
  have r := hr k (by omega)
  unfold eqE
  rw [Bool.and_eq_true, decide_eq_true_iff, all_i (P := fun x => D (kdA p + kdB p * k + kdO p + x) = if x < 2 then f (s + x) else 0) (fun x => beq_iff_eq)]
  constructor
  · rintro ⟨-, y⟩
    have := y 1 (by omega)
    rw [r 1 (by omega), if_neg (by omega), if_pos rfl, if_pos (by omega), h1] at this
    have := (nI_eq (a := 97 + k) (b := 97 + j) (by omega) (by omega)).mp this
    omega
  · intro e
    refine ⟨by omega, fun x hx => ?_⟩
    rw [r x hx]
    rcases (by omega : x = 0 ∨ x = 1 ∨ 2 ≤ x) with y | y | y
    · rw [y, if_pos rfl, if_pos (by omega), Nat.add_zero, h0]
    · rw [y, if_neg (by omega), if_pos rfl, if_pos (by omega), h1, e]
    · rw [if_neg (by omega), if_neg (by omega), if_neg (by omega)]
theorem nm2_w {D f : PD} {o s K j : Nat} {a : Int32} (hK : K = 2) (h0 : f s = a) (h1 : f (s + 1) = nI (97 + j)) : nm2 (nmW D o f s K) o a j := fun x hx => by
  rw [nmW_r hx, hK]
  rcases (by omega : x = 0 ∨ x = 1 ∨ 2 ≤ x) with y | y | y
  · rw [y, if_neg (by omega), if_pos rfl, Nat.add_zero, h0]
  · rw [y, if_neg (by omega), if_neg (by omega), if_pos rfl, h1]
  · rw [if_pos y, if_neg (by omega), if_neg (by omega)]
theorem nm2_c {D D' : PD} {o j : Nat} {a : Int32} (h : nm2 D o a j) (e : ∀ x, x < 6 → D' (o + x) = D (o + x)) : nm2 D' o a j := fun x hx => by rw [e x hx]; exact h x hx
