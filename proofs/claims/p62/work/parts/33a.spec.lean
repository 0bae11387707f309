/-! the text's words, and what they ask for: executable -/
def blE (v : Int32) : Bool := v == 32 || v == 10
def letE (v : Int32) : Bool := decide (97 ≤ v) && decide (v ≤ 122)
def digE (v : Int32) : Bool := decide (48 ≤ v) && decide (v ≤ 57)
def fndE (p : Nat → Bool) : Nat → Nat → Nat
  | 0, k => k
  | d + 1, k => if p k = true then k else fndE p d (k + 1)
theorem fndE_eq {P : Nat → Prop} {p : Nat → Bool} (h : ∀ k, p k = true ↔ P k) : ∀ d k, fnd P d k = fndE p d k := by
  intro d
  induction d with
  | zero => intro k; rfl
  | succ d ih =>
    intro k
    rw [fnd_s]
    unfold fndE
    by_cases z : P k
    · rw [pif_t z, if_pos ((h k).mpr z)]
    · rw [pif_f z, if_neg (fun y => z ((h k).mp y)), ih]
def nbE (f : Nat → Int32) (L p : Nat) : Nat := fndE (fun k => !blE (byK f k)) (L - p) p
def weE (f : Nat → Int32) (L p : Nat) : Nat := fndE (fun k => !letE (byK f k)) (L - p) p
def deE (f : Nat → Int32) (L p : Nat) : Nat := fndE (fun k => !digE (byK f k)) (L - p) p
def kdE (f : Nat → Int32) (L s : Nat) : Nat := if L ≤ s then 0 else if letE (byK f s) = true then 1 else if digE (byK f s) = true then 2 else 3
def enE (f : Nat → Int32) (L s : Nat) : Nat := if L ≤ s then s else if letE (byK f s) = true then weE f L s else if digE (byK f s) = true then deE f L s else s + 1
def nxE (f : Nat → Int32) (L s : Nat) : Nat := nbE f L (enE f L s)
theorem blE_i (v : Int32) : blE v = true ↔ blB v := by unfold blE; simp
theorem letE_i (v : Int32) : letE v = true ↔ letB v := by unfold letE letB; simp
theorem digE_i (v : Int32) : digE v = true ↔ digB v := by unfold digE; simp
theorem not_i {b : Bool} {P : Prop} (h : b = true ↔ P) : (!b) = true ↔ ¬ P := by rw [← h]; cases b <;> simp
theorem nb_E (f : Nat → Int32) (L p : Nat) : nbK f L p = nbE f L p := fndE_eq (fun k => not_i (blE_i _)) _ _
theorem we_E (f : Nat → Int32) (L p : Nat) : weK f L p = weE f L p := fndE_eq (fun k => not_i (letE_i _)) _ _
theorem de_E (f : Nat → Int32) (L p : Nat) : deK f L p = deE f L p := fndE_eq (fun k => not_i (digE_i _)) _ _
theorem kd_E (f : Nat → Int32) (L s : Nat) : kdK f L s = kdE f L s := by
  unfold kdK kdE
  by_cases z : L ≤ s
  · rw [if_pos z, if_pos z]
  rw [if_neg z, if_neg z]
  by_cases a : letB (byK f s)
  · rw [pif_t a, if_pos ((letE_i _).mpr a)]
  rw [pif_f a, if_neg (fun y => a ((letE_i _).mp y))]
  by_cases b : digB (byK f s)
  · rw [pif_t b, if_pos ((digE_i _).mpr b)]
  · rw [pif_f b, if_neg (fun y => b ((digE_i _).mp y))]
theorem en_E (f : Nat → Int32) (L s : Nat) : enK f L s = enE f L s := by
  unfold enK enE
  by_cases z : L ≤ s
  · rw [if_pos z, if_pos z]
  rw [if_neg z, if_neg z]
  by_cases a : letB (byK f s)
  · rw [pif_t a, if_pos ((letE_i _).mpr a), we_E]
  rw [pif_f a, if_neg (fun y => a ((letE_i _).mp y))]
  by_cases b : digB (byK f s)
  · rw [pif_t b, if_pos ((digE_i _).mpr b), de_E]
  · rw [pif_f b, if_neg (fun y => b ((digE_i _).mp y))]
theorem nx_E (f : Nat → Int32) (L s : Nat) : nxK f L s = nxE f L s := by unfold nxK nxE; rw [en_E, nb_E]
/-- the token is keyword j -/
def txE (f : Nat → Int32) (L s j : Nat) : Bool := kdE f L s == 1 && (enE f L s - s == txL j && (List.range (txL j)).all (fun k => f (s + k) == txT j k))
def syE (f : Nat → Int32) (L s : Nat) (c : Int32) : Bool := kdE f L s == 3 && byK f s == c
/-- the token is a name -/
def nmE (f : Nat → Int32) (L s : Nat) : Bool := kdE f L s == 1 && ((List.range 15).all (fun j => !txE f L s j) && decide (enE f L s - s ≤ 6))
/-- a number's value -/
def nuE (f : Nat → Int32) (L s : Nat) : Nat := (ncK f s (enE f L s - s)).toNatClampNeg
/-- a look-up -/
def eqE (D : Nat → Int32) (o : Nat) (f : Nat → Int32) (s K : Nat) : Bool := decide (K ≤ 6) && (List.range 6).all (fun k => D (o + k) == if k < K then f (s + k) else 0)
def fsE (p : Nat → Bool) : Nat → Nat → Option Nat
  | 0, _ => none
  | c + 1, i => if p i = true then some i else fsE p c (i + 1)
def lkE (D : Nat → Int32) (f : Nat → Int32) (L s p : Nat) : Option Nat := fsE (fun i => eqE D (kdA p + kdB p * i + kdO p) f s (enE f L s - s)) (kN D (3 + p)) 0
theorem all_i {p : Nat → Bool} {P : Nat → Prop} (h : ∀ k, p k = true ↔ P k) (n : Nat) : (List.range n).all p = true ↔ ∀ k, k < n → P k := by
  rw [List.all_eq_true]
  exact ⟨fun a k hk => (h k).mp (a k (List.mem_range.mpr hk)), fun a k hk => (h k).mpr (a k (List.mem_range.mp hk))⟩
theorem tx_E {f : Nat → Int32} {L s j : Nat} : txE f L s j = true ↔ isTx f L s j := by
  unfold txE isTx
  rw [Bool.and_eq_true, Bool.and_eq_true, beq_iff_eq, beq_iff_eq, all_i (P := fun k => f (s + k) = txT j k) (fun k => beq_iff_eq), kd_E, en_E]
theorem sy_E {f : Nat → Int32} {L s : Nat} {c : Int32} : syE f L s c = true ↔ isSy f L s c := by
  unfold syE isSy
  rw [Bool.and_eq_true, beq_iff_eq, beq_iff_eq, kd_E]
theorem nm_E {f : Nat → Int32} {L s : Nat} : nmE f L s = true ↔ isNm f L s := by
  unfold nmE isNm
  rw [Bool.and_eq_true, Bool.and_eq_true, beq_iff_eq, decide_eq_true_iff, all_i (P := fun j => ¬ isTx f L s j) (fun k => not_i tx_E), kd_E, en_E]
theorem eq_E {D f : Nat → Int32} {o s K : Nat} : eqE D o f s K = true ↔ nmEq D o (fun k => f (s + k)) K := by
  unfold eqE nmEq
  rw [Bool.and_eq_true, decide_eq_true_iff, all_i (P := fun k => D (o + k) = if k < K then f (s + k) else 0) (fun k => beq_iff_eq)]
theorem fs_E {P : Nat → Prop} {p : Nat → Bool} (h : ∀ k, p k = true ↔ P k) (n : Nat) : fstN P n = fsE p n 0 := by
  unfold fstN
  have g : ∀ c k, runL (fun i (_ : Unit) => pif (P i) (.inl (some i)) (.inr ())) (fun _ => (none : Option Nat)) c k () = fsE p c k := by
    intro c
    induction c with
    | zero => intro k; rfl
    | succ c ih =>
      intro k
      unfold runL fsE
      by_cases z : P k
      · rw [pif_t z, if_pos ((h k).mpr z)]
      · rw [pif_f z, if_neg (fun y => z ((h k).mp y))]
        exact ih (k + 1)
  exact g n 0
theorem lk_E {D f : Nat → Int32} {L s p : Nat} : lkP4 D f L s p = lkE D f L s p := by
  unfold lkP4 lkN lkE
  rw [en_E]
  exact fs_E (fun k => eq_E) _
theorem nu_E {f : Nat → Int32} {L s lo hh v : Nat} (h8 : ∀ i, i < L → (f i).toInt8.toInt32 = f i) (hb : hh ≤ 99999) : nuOk f L s lo hh v ↔ kdE f L s = 2 ∧ nuE f L s = v ∧ lo ≤ v ∧ v ≤ hh := by
  unfold nuOk
  constructor
  · rintro ⟨⟨a, b, c, d⟩, e, g⟩
    refine ⟨by rw [← kd_E]; exact a, ?_, e, g⟩
    unfold nuE
    rw [← en_E, c, nI_clamp (by omega)]
  · rintro ⟨a, b, c, d⟩
    rw [← kd_E] at a
    rcases nu_cases h8 a with ⟨v', w⟩ | ⟨-, w, w1, w2, w3, w4⟩
    · have : v' = v := by
        rw [← b]; unfold nuE
        rw [← en_E, w.2.2.1, nI_clamp (by have := w.2.1; omega)]
      rw [← this] at c d ⊢
      exact ⟨w, c, d⟩
    · exfalso
      unfold nuE at b
      rw [← en_E, w3, nI_clamp (by omega)] at b
      omega
/-! what a text asks for: none: not told here; an error with its place; or the place behind it and the draft -/
abbrev PD : Type := Nat → Int32
abbrev PR : Type := Option ((Nat × Nat) ⊕ (Nat × PD))
def pEr (c s : Nat) : PR := some (.inl (c, s))
def pTx (f : PD) (L j s : Nat) (k : Nat → PR) : PR := if txE f L s j = true then k (nxE f L s) else pEr 1 s
def pSy (f : PD) (L : Nat) (c : Int32) (s : Nat) (k : Nat → PR) : PR := if syE f L s c = true then k (nxE f L s) else pEr 1 s
def pNu (f : PD) (L lo hh s : Nat) (k : Nat → Nat → PR) : PR := if kdE f L s = 2 then (if lo ≤ nuE f L s ∧ nuE f L s ≤ hh then k (nuE f L s) (nxE f L s) else pEr 2 s) else pEr 1 s
def pOl (f : PD) (L : Nat) (D : PD) (p s : Nat) (k : Nat → Nat → PR) : PR := if nmE f L s = true then (match lkE D f L s p with | some i => k i (nxE f L s) | none => pEr 3 s) else pEr 1 s
def pNe (f : PD) (L : Nat) (D : PD) (p q s : Nat) (k : Nat → PR) : PR := if nmE f L s = true then (if lkE D f L s p = none ∧ lkE D f L s q = none then k (nxE f L s) else pEr 3 s) else pEr 1 s
/-- a name's rows -/
def nmW (D : PD) (o : Nat) (f : PD) (s K : Nat) : PD := fun x => if o ≤ x ∧ x < o + 6 then (if K ≤ x - o then 0 else f (s + (x - o))) else D x
def pEn (f : PD) (L q : Nat) (D : PD) (s : Nat) : PR := pSy f L 59 s fun s' => some (.inr (s', upd D q (nI (kN D q + 1))))
def pC2 (f : PD) (L c : Nat) (D : PD) (s : Nat) : PR := if txE f L s 7 = true then pOl f L D 0 (nxE f L s) fun i s' => pEn f L 3 (upd D (13 + 9 * c) (nI i)) s' else pEn f L 3 (upd D (13 + 9 * c) (-1)) s
def pC1 (f : PD) (L c : Nat) (D : PD) (s : Nat) : PR := if txE f L s 6 = true then pNu f L 1 99 (nxE f L s) fun v s' => pC2 f L c (upd D (12 + 9 * c) (nI v)) s' else pC2 f L c (upd D (12 + 9 * c) 0) s
def pCl (f : PD) (L : Nat) (D : PD) (s : Nat) : PR := if kN D 3 < 8 then
    pNe f L D 0 0 (nxE f L s) fun s2 => pTx f L 4 s2 fun s3 =>
    if txE f L s3 5 = true then pC1 f L (kN D 3) (upd (nmW D (14 + 9 * kN D 3) f (nxE f L s) (enE f L (nxE f L s) - nxE f L s)) (11 + 9 * kN D 3) (-1)) (nxE f L s3)
    else pNu f L 1 999 s3 fun v s4 => pC1 f L (kN D 3) (upd (nmW D (14 + 9 * kN D 3) f (nxE f L s) (enE f L (nxE f L s) - nxE f L s)) (11 + 9 * kN D 3) (nI v)) s4
  else pEr 4 s
def pUs (f : PD) (L : Nat) (D : PD) (s : Nat) : PR := if kN D 4 < 10 ∧ ¬ kN D 3 = 0 then
    pNe f L D 1 2 (nxE f L s) fun s2 => pTx f L 3 s2 fun s3 => pOl f L D 0 s3 fun i s4 => pTx f L 9 s4 fun s5 => pNu f L 1 99999 s5 fun v s6 =>
    pEn f L 4 (upd (upd (nmW D (85 + 8 * kN D 4) f (nxE f L s) (enE f L (nxE f L s) - nxE f L s)) (83 + 8 * kN D 4) (nI i)) (84 + 8 * kN D 4) (nI v)) s6
  else pEr 4 s
/-- groups: their errors alone, up to the first member -/
def pGr (f : PD) (L : Nat) (D : PD) (s : Nat) : PR := if kN D 5 < 6 ∧ ¬ kN D 4 = 0 then
    pNe f L D 1 2 (nxE f L s) fun s2 => if nmE f L s2 = true then (if lkE D f L s2 1 = none ∧ lkE D f L s2 2 = none then pEr 3 s2 else none) else pEr 1 s2
  else pEr 4 s
/-- a hold's word -/
def woE (f : PD) (L s : Nat) : Bool := kdE f L s == 1 && decide (enE f L s - s ≤ 10)
def woW (D : PD) (c : Nat) (f : PD) (s K : Nat) : PD := fun x => if x = 209 + 21 * c then nI K else if 210 + 21 * c ≤ x ∧ x < 220 + 21 * c then (if K ≤ x - (210 + 21 * c) then 0 else f (s + (x - (210 + 21 * c)))) else D x
def pH2 (f : PD) (L c : Nat) (D : PD) (s : Nat) : PR := if txE f L s 14 = true then
    (if woE f L (nxE f L s) = true then pEn f L 6 (upd (woW D c f (nxE f L s) (enE f L (nxE f L s) - nxE f L s)) (208 + 21 * c) 1) (nxE f L (nxE f L s)) else pEr 1 (nxE f L s))
  else pEn f L 6 (upd (upd D (209 + 21 * c) 0) (208 + 21 * c) 1) s
def pHo (f : PD) (L : Nat) (D : PD) (s : Nat) : PR := if kN D 6 < 6 ∧ ¬ kN D 4 = 0 then
    pNe f L D 3 3 (nxE f L s) fun s2 => pTx f L 8 s2 fun s3 => pOl f L D 1 s3 fun u s4 =>
    if txE f L s4 12 = true then pNu f L 0 9999 (nxE f L s4) fun a s5 => pTx f L 13 s5 fun s6 => pNu f L a 9999 s6 fun b s7 =>
      pH2 f L (kN D 6) (upd (upd (upd (nmW D (220 + 21 * kN D 6) f (nxE f L s) (enE f L (nxE f L s) - nxE f L s)) (205 + 21 * kN D 6) (nI u)) (206 + 21 * kN D 6) (nI a)) (207 + 21 * kN D 6) (nI b)) s7
    else pH2 f L (kN D 6) (upd (upd (upd (nmW D (220 + 21 * kN D 6) f (nxE f L s) (enE f L (nxE f L s) - nxE f L s)) (205 + 21 * kN D 6) (nI u)) (206 + 21 * kN D 6) 0) (207 + 21 * kN D 6) (nI 20000)) s4
  else pEr 4 s
def pSt (f : PD) (L : Nat) (D : PD) (s : Nat) : PR := if txE f L s 3 = true then pCl f L D s else if txE f L s 8 = true then pUs f L D s else if txE f L s 10 = true then pGr f L D s else if txE f L s 11 = true then pHo f L D s else pEr 1 s
def pLo (f : PD) (L : Nat) : Nat → PD → Nat → PR
  | 0, D, s => some (.inr (s, D))
  | d + 1, D, s => if L ≤ s then some (.inr (s, D)) else
    match pSt f L D s with
    | some (.inr (s', D')) => pLo f L d D' s'
    | x => x
