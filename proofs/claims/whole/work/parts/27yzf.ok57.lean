/-! names, a line, the mailbox -/
/-- letters one after another -/
def lst (f : Nat → Int32) : Nat → Nat → List Nat
  | _, 0 => []
  | a, k + 1 => (f a).toNatClampNeg :: lst f (a + 1) k
theorem lst_len (f : Nat → Int32) : ∀ k a, (lst f a k).length = k := by
  intro k
  induction k with
  | zero => intro a; rfl
  | succ k ih => intro a; unfold lst; rw [List.length_cons, ih]
theorem lst_lt {f : Nat → Int32} : ∀ k a, (∀ i, a ≤ i → i < a + k → letB (f i)) → ∀ x ∈ lst f a k, x < 128 := by
  intro k
  induction k with
  | zero => intro a _ x hx; cases hx
  | succ k ih =>
    intro a h x hx
    unfold lst at hx
    rcases List.mem_cons.mp hx with e | e
    · have d := let_dig (h a (by omega) (by omega))
      omega
    · exact ih (a + 1) (fun i h1 h2 => h i (by omega) (by omega)) x e
/-- the letters of a word's number -/
def wD (w : Nat) : Nat → List Nat
  | 0 => []
  | k + 1 => if w / 27 ^ k % 27 = 0 then wD w k else (96 + w / 27 ^ k % 27) :: wD w k
theorem wv_div {f : Nat → Int32} {c : Nat} (h : ∀ i, i < c → letB (f i)) : ∀ k, k ≤ c → wv f c / 27 ^ k = wv f (c - k) := by
  intro k
  induction k with
  | zero => intro _; rw [Nat.pow_zero, Nat.div_one]; rfl
  | succ k ih =>
    intro hk
    rw [Nat.pow_succ, ← Nat.div_div_eq_div_mul, ih (by omega)]
    obtain ⟨d, hd⟩ : ∃ d, c - k = d + 1 := ⟨c - k - 1, by omega⟩
    rw [hd, wv_s, show c - (k + 1) = d by omega]
    have e := let_dig (h d (by omega))
    omega
theorem wD_lst {f : Nat → Int32} {c : Nat} (h : ∀ i, i < c → letB (f i)) : ∀ k, k ≤ c → wD (wv f c) k = lst f (c - k) k := by
  intro k
  induction k with
  | zero => intro _; rfl
  | succ k ih =>
    intro hk
    obtain ⟨d, hd⟩ : ∃ d, c - k = d + 1 := ⟨c - k - 1, by omega⟩
    have e := let_dig (h d (by omega))
    have dig : wv f c / 27 ^ k % 27 = (f d).toNatClampNeg - 96 := by
      rw [wv_div h k (by omega), hd, wv_s]
      omega
    unfold wD lst
    rw [dig, if_neg (by omega), ih (by omega), show c - (k + 1) = d by omega, hd]
    congr 1
    omega
theorem wD_hi {f : Nat → Int32} {c : Nat} (h : ∀ i, i < c → letB (f i)) : ∀ d, wD (wv f c) (c + d) = lst f 0 c := by
  intro d
  induction d with
  | zero => rw [Nat.add_zero, wD_lst h c (Nat.le_refl _), Nat.sub_self]
  | succ d ih =>
    rw [← Nat.add_assoc, wD, if_pos, ih]
    have := wv_lt h
    rw [Nat.div_eq_of_lt]
    exact Nat.lt_of_lt_of_le this (Nat.pow_le_pow_right (by omega) (by omega))
def un27 (k : Nat) : Nat := if k = 0 then 0 else 27 ^ (k - 1)
theorem un27_s (k : Nat) : un27 (k + 1) = 27 ^ k := by unfold un27; rw [if_neg (by omega), Nat.add_sub_cancel]
theorem un27_div (k : Nat) : 27 ^ k / 27 = un27 k := by
  unfold un27
  by_cases z : k = 0
  · rw [if_pos z, z]
  · rw [if_neg z]
    obtain ⟨j, rfl⟩ : ∃ j, k = j + 1 := ⟨k - 1, by omega⟩
    rw [Nat.pow_succ, Nat.mul_div_cancel _ (by omega), Nat.add_sub_cancel]
theorem p27_le {k : Nat} (h : k ≤ 5) : 1 ≤ 27 ^ k ∧ 27 ^ k ≤ 14348907 := by
  rcases (show k = 0 ∨ k = 1 ∨ k = 2 ∨ k = 3 ∨ k = 4 ∨ k = 5 by omega) with rfl | rfl | rfl | rfl | rfl | rfl <;> exact ⟨by decide, by decide⟩
section Wo
variable {F : Nat} {S : St}
theorem e_addWord {l : List Nat} (hx : FxF S) (o : OC S l) {w : Nat} (hw : w < 2 ^ 63) (hl : l.length + (wD w 6).length ≤ 2040) (hF : 1000 ≤ F) : ∃ T, f_X0_addWord F S 22 (lN w) = some T ∧ OcF S T ∧ OC T (l ++ wD w 6) := by
  have loop : ∀ k, k ≤ 6 → ∀ fu T m, k < fu → OcF S T → OC T m → m.length + (wD w k).length ≤ 2040 → ∃ T', f_X0_addWord_L4 F fu T 22 (lN w) (lN (un27 k)) = some T' ∧ OcF S T' ∧ OC T' (m ++ wD w k) := by
    intro k
    induction k with
    | zero =>
      intro _ fu T m hfu c o hm
      obtain ⟨fu, rfl⟩ : ∃ f', fu = f' + 1 := ⟨fu - 1, by omega⟩
      refine ⟨T, ?_, c, by rw [show wD w 0 = [] from rfl, List.append_nil]; exact o⟩
      unfold f_X0_addWord_L4
      rw [show lN (un27 0) = 0 from rfl, if_pos ((lg_cmp_lt _ _).mpr (by decide))]
    | succ k ih =>
      intro hk fu T m hfu c o hm
      obtain ⟨fu, rfl⟩ : ∃ f', fu = f' + 1 := ⟨fu - 1, by omega⟩
      obtain ⟨t1, t2⟩ := p27_le (k := k) (by omega)
      have hxT := c.fx hx
      have dl : w / 27 ^ k ≤ w := Nat.div_le_self _ _
      have dm := Nat.mod_lt (w / 27 ^ k) (show 0 < 27 by omega)
      have u27 : lN (27 ^ k) / 27 = lN (un27 k) := by rw [show (27 : Int64) = lN 27 from rfl, lN_div (by omega) (by omega), un27_div]
      have x5 : ((lN w / lN (27 ^ k)) - (lN w / lN (27 ^ k)) / 27 * 27).toInt32 = nI (w / 27 ^ k % 27) := by rw [lN_div hw (by omega), lN_mod27 (by omega), lN_i32 (by omega)]
      unfold f_X0_addWord_L4
      rw [un27_s, if_neg (fun y => by
        have := (lg_cmp_lt _ _).mp y
        rw [show (1 : Int64) = lN 1 from rfl, lN_ltI (by omega) (by omega)] at this
        omega), ck_t (show ¬ lN (27 ^ k) = 0 from fun y => by
        rw [show (0 : Int64) = lN 0 from rfl, lN_inj (by omega) (by omega)] at y
        omega), x5]
      simp only [lt_eq]
      unfold f_X0_addWord_L36
      by_cases z : w / 27 ^ k % 27 = 0
      · have e : wD w (k + 1) = wD w k := by rw [wD, if_pos z]
        rw [e] at hm ⊢
        obtain ⟨T', r1, r2, r3⟩ := ih (by omega) fu T m (by omega) c o hm
        refine ⟨T', ?_, r2, r3⟩
        rw [z, if_pos (by decide), u27, lt_eq]
        exact r1
      · have e : wD w (k + 1) = (96 + w / 27 ^ k % 27) :: wD w k := by rw [wD, if_neg z]
        rw [e] at hm ⊢
        rw [List.length_cons] at hm
        obtain ⟨T1, q1, q2, q3⟩ := e_add (F := F) hxT o (v := 96 + w / 27 ^ k % 27) (by omega) (by omega)
        obtain ⟨T', r1, r2, r3⟩ := ih (by omega) fu T1 (m ++ [96 + w / 27 ^ k % 27]) (by omega) (c.tr q2) q3 (by rw [List.length_append]; show m.length + 1 + _ ≤ 2040; omega)
        refine ⟨T', ?_, r2, by rw [List.append_assoc] at r3; exact r3⟩
        rw [if_neg (show ¬ nI (w / 27 ^ k % 27) ≤ 0 from nI_ge (a := 0) (by omega) (by omega)), show (97 : Int32) = nI 97 from rfl, nI_add, show (1 : Int32) = nI 1 from rfl, nI_sub (by omega), show 97 + w / 27 ^ k % 27 - 1 = 96 + w / 27 ^ k % 27 by omega, q1, ob_some, u27, lt_eq]
        exact r1
  unfold f_X0_addWord
  rw [lt_eq]
  exact loop 6 (by omega) F S l (by omega) (OcF.rf S) o hl
theorem m_writeClass {l : List Nat} (hx : FxF S) (o : OM S l) {c k : Nat} (hc : c < 8) (hk : k ≤ 6) (hn : ∀ i, i < k → letB (ai S 198 (14 + 9 * c + i))) (hz : ∀ i, k ≤ i → i < 6 → ai S 198 (14 + 9 * c + i) = 0) (hl : l.length + k ≤ 3000) (hF : 1000 ≤ F) : ∃ T, f_X11_writeClass F S 197 (nI c) = some T ∧ OmF S T ∧ OM T (l ++ lst (fun i => ai S 198 (14 + 9 * c + i)) 0 k) := by
  have loop : ∀ d i fu T m, i + d = k → d + 1 < fu → OmF S T → OM T m → m.length + d ≤ 3000 → ∃ T', f_X11_writeClass_L2 F fu T 197 (nI c) (nI i) = some T' ∧ OmF S T' ∧ OM T' (m ++ lst (fun i => ai S 198 (14 + 9 * c + i)) i d) := by
    intro d
    induction d with
    | zero =>
      intro i fu T m hi hfu cc o hm
      obtain ⟨fu, rfl⟩ : ∃ f', fu = f' + 1 := ⟨fu - 1, by omega⟩
      have hxT := cc.fx hx
      have n8 : ai T 198 = ai S 198 := cc.2.2.1 198 (by omega)
      refine ⟨T, ?_, cc, by rw [show lst (fun i => ai S 198 (14 + 9 * c + i)) i 0 = [] from rfl, List.append_nil]; exact o⟩
      unfold f_X11_writeClass_L2
      by_cases z : 6 ≤ i
      · rw [if_pos (show 6 ≤ nI i from nI_le (a := 6) z (by omega))]
      · rw [if_neg (show ¬ 6 ≤ nI i from fun y => z ((nI_leI (a := 6) (by omega) (by omega)).mp y)), show (3 : Int32) = nI 3 from rfl, nI_add, m_cls hxT (by omega), ob_some, n8, show 11 + 9 * c + (3 + i) = 14 + 9 * c + i by omega, hz i (by omega) (by omega)]
        simp only [lt_eq]
        rw [if_pos True.intro]
    | succ d ih =>
      intro i fu T m hi hfu cc o hm
      obtain ⟨fu, rfl⟩ : ∃ f', fu = f' + 1 := ⟨fu - 1, by omega⟩
      have hxT := cc.fx hx
      have n8 : ai T 198 = ai S 198 := cc.2.2.1 198 (by omega)
      have dg := let_dig (hn i (by omega))
      obtain ⟨v, hv⟩ : ∃ v, v = (ai S 198 (14 + 9 * c + i)).toNatClampNeg := ⟨_, rfl⟩
      have e : ai S 198 (14 + 9 * c + i) = nI v := by rw [dg.2.2, ← hv]; exact congrArg nI (by omega)
      obtain ⟨T1, q1, q2, q3⟩ := m_write (F := F) hxT o (v := v) (by omega) (by omega)
      obtain ⟨T', r1, r2, r3⟩ := ih (i + 1) fu T1 (m ++ [v]) (by omega) (by omega) (cc.tr q2) q3 (by rw [List.length_append]; show m.length + 1 + _ ≤ 3000; omega)
      refine ⟨T', ?_, r2, by
        rw [List.append_assoc] at r3
        unfold lst
        rw [← hv]
        exact r3⟩
      unfold f_X11_writeClass_L2
      rw [if_neg (show ¬ 6 ≤ nI i from fun y => by have := (nI_leI (a := 6) (by omega) (by omega)).mp y; omega), show (3 : Int32) = nI 3 from rfl, nI_add, m_cls hxT (by omega), ob_some, n8, show 11 + 9 * c + (3 + i) = 14 + 9 * c + i by omega, e]
      simp only [lt_eq]
      rw [if_neg (nI_ne0 (by omega) (by omega)), m_cls hxT (by omega), ob_some, n8, show 11 + 9 * c + (3 + i) = 14 + 9 * c + i by omega, e]
      simp only [lt_eq]
      rw [q1, ob_some, nI_1]
      exact r1
  unfold f_X11_writeClass
  exact loop k 0 F S l (by omega) (by omega) (OmF.rf S) o hl
end Wo
/-- a line of the mailbox -/
def lnN (N : Nat → Int32) (m u k : Nat) : List Nat := cD m 5 false ++ [58] ++ lst (fun i => N (14 + 9 * clK N m u + i)) 0 k ++ [47] ++ cD (kN N (1173 + 3 * (10 * m + u))) 5 false ++ [10]
/-- how long the class's name is -/
def nmL (N : Nat → Int32) (c k : Nat) : Prop := k ≤ 6 ∧ isName N (14 + 9 * c) k ∧ ∀ i, k ≤ i → i < 6 → N (14 + 9 * c + i) = 0
theorem dec_len {v : Nat} (hv : v < 100000) : (cD v 5 false).length ≤ 5 ∧ (v < 1000 → (cD v 5 false).length ≤ 3) ∧ ∀ x ∈ cD v 5 false, x < 128 := by
  obtain ⟨j, j1, -, -, j4, j5⟩ := dec_ex hv
  rw [j4, rD_len]
  exact ⟨by omega, fun h => by have := j5 h; omega, rD_lt v _⟩
section Li
variable {F : Nat} {S : St} {n : Nat} {N B : Nat → Int32} {m u k : Nat}
theorem ln_len (w : WB N B) (hm : m < kN N 7) (hu : u < 10) (hk : k ≤ 6) : (lnN N m u k).length ≤ 17 := by
  have b7 := w.n7.2
  have e := (w.wR m u hm hu).2.2.1.2
  have d1 := (dec_len (v := m) (by omega)).2.1 (by omega)
  have d2 := (dec_len (v := kN N (1173 + 3 * (10 * m + u))) (by omega)).1
  unfold lnN
  simp only [List.length_append, List.length_cons, List.length_nil, lst_len]
  omega
theorem ln_lt (w : WB N B) (hm : m < kN N 7) (hu : u < 10) (hn : ∀ i, i < k → letB (N (14 + 9 * clK N m u + i))) : ∀ x ∈ lnN N m u k, x < 128 := by
  have b7 := w.n7.2
  have e := (w.wR m u hm hu).2.2.1.2
  intro x hx
  unfold lnN at hx
  simp only [List.mem_append, List.mem_singleton] at hx
  rcases hx with ((((h | h) | h) | h) | h) | h
  · exact (dec_len (v := m) (by omega)).2.2 x h
  · omega
  · exact lst_lt k 0 (fun i _ h2 => hn i (by omega)) x h
  · omega
  · exact (dec_len (v := kN N (1173 + 3 * (10 * m + u))) (by omega)).2.2 x h
  · omega
theorem e_line (hx : FxF S) (C : Cl0 S n 27 N B) {l : List Nat} (o : OC S l) (hm : m < kN N 7) (hu : u < kN N 4) (hk : nmL N (clK N m u) k) (hl : l.length + (lnN N m u k).length ≤ 2040) (hF : 1000 ≤ F) : ∃ T, f_X10_writeReference F S 0 (nI m) (nI u) = some T ∧ OcF S T ∧ OC T (l ++ lnN N m u k) := by
  have w := C.wb
  have b3 := w.n3.2
  have b4 := w.n4.2
  have b7 := w.n7.2
  obtain ⟨c1, c2⟩ := clK_lt w hm hu
  have ew := (w.wR m u hm (by omega)).2.2.1
  have ew2 := ew.2
  obtain ⟨k1, k2, k3⟩ := hk
  have hn : ∀ i, i < k → letB (N (14 + 9 * clK N m u + i)) := fun i hi => k2.2 i hi
  have ll : l.length + (cD m 5 false).length + 1 + k + 1 + (cD (kN N (1173 + 3 * (10 * m + u))) 5 false).length + 1 ≤ 2040 := by
    unfold lnN at hl
    simp only [List.length_append, List.length_cons, List.length_nil, lst_len] at hl
    omega
  have cl : ∀ T, OcF S T → Cl0 T n 27 N B := fun T f => C.agr (Nat.le_refl _) (fun i hi => f.same (by omega) (by omega))
  have r901 : ∀ T, OcF S T → sr T 901 0 = some 22 := fun T f => (f.fx hx).1 (901, 0, 22) (by decide)
  obtain ⟨T1, p1, f1, o1⟩ := e_addNumber (F := F) hx o (v := m) (by omega) (by omega) hF
  have x1 := f1.fx hx
  obtain ⟨T2, p2, g2, o2⟩ := e_add (F := F) x1 o1 (v := 58) (by omega) (by rw [List.length_append]; omega)
  have f2 := f1.tr g2
  have x2 := f2.fx hx
  have C2 := cl T2 f2
  obtain ⟨r, h1, h2, h3⟩ := C2.ru
  obtain ⟨-, -, -, kk, q1, q2, q3, q4⟩ := h3.2.2.1 _ c1
  have hr := h3.1
  have wn : wdN N (14 + 9 * clK N m u) kk = lN (wv (fun i => N (14 + 9 * clK N m u + i)) kk) := wdN_eq (fun i hi => q2.2 i hi)
  have ekk : kk = k := by
    rcases Nat.lt_trichotomy kk k with h | h | h
    · have a := hn kk h
      rw [q3 kk (Nat.le_refl _) (by omega)] at a
      exact absurd a.1 (by decide)
    · exact h
    · have a : letB (N (14 + 9 * clK N m u + k)) := q2.2 k h
      rw [k3 k (Nat.le_refl _) (by omega)] at a
      exact absurd a.1 (by decide)
  subst ekk
  obtain ⟨W, hW⟩ : ∃ W, W = wv (fun i => N (14 + 9 * clK N m u + i)) kk := ⟨_, rfl⟩
  have Wb : W < 2 ^ 63 := by
    have := wv_b (f := fun i => N (14 + 9 * clK N m u + i)) (c := kk) (by omega) hn
    omega
  have WD : wD W 6 = lst (fun i => N (14 + 9 * clK N m u + i)) 0 kk := by
    rw [hW, show 6 = kk + (6 - kk) by omega]
    exact wD_hi hn _
  obtain ⟨T3, p3, g3, o3⟩ := e_addWord (F := F) x2 o2 (w := W) Wb (by rw [WD, lst_len, List.length_append, List.length_append]; show l.length + _ + 1 + _ ≤ 2040; omega) hF
  have f3 := f2.tr g3
  have x3 := f3.fx hx
  rw [WD] at o3
  obtain ⟨T4, p4, g4, o4⟩ := e_add (F := F) x3 o3 (v := 47) (by omega) (by rw [List.length_append, List.length_append, List.length_append, lst_len]; show l.length + _ + 1 + _ < 2040; omega)
  have f4 := f3.tr g4
  have x4 := f4.fx hx
  obtain ⟨T5, p5, g5, o5⟩ := e_addNumber (F := F) x4 o4 (v := kN N (1173 + 3 * (10 * m + u))) (by omega) (by rw [List.length_append, List.length_append, List.length_append, List.length_append, lst_len]; show l.length + _ + 1 + _ + 1 + _ ≤ 2040; omega) hF
  have f5 := f4.tr g5
  have x5 := f5.fx hx
  obtain ⟨T6, p6, g6, o6⟩ := e_add (F := F) x5 o5 (v := 10) (by omega) (by rw [List.length_append, List.length_append, List.length_append, List.length_append, List.length_append, lst_len]; show l.length + _ + 1 + _ + 1 + _ < 2040; omega)
  refine ⟨T6, ?_, f5.tr g6, ?_⟩
  · unfold f_X10_writeReference
    rw [r901 S (OcF.rf S), ob_some, p1, ob_some, r901 T1 f1, ob_some, show (58 : Int32) = nI 58 from rfl, p2, ob_some, r901 T2 f2, ob_some, x2.r905_0, ob_some, h1, ob_some, hr.r602_0, ob_some, ob_some, e_retOf C2 x2.sp27 hm hu, ob_some, c2]
    simp only [lt_eq]
    unfold f_X5_nameAt f_X5_has
    rw [h3.2.1.2.2.1, if_neg (nI_pos (by omega)), w.n3.1, if_neg (nI_ge (by omega) (by omega)), ob_some]
    simp only [lt_eq]
    rw [if_neg (show ¬ (1 : Int32) = 0 by decide), hr.r400_1, ob_some, hr.l2, if_neg (nI_ge (by omega) (by omega)), ob_some, cki_nI (by rw [hr.l2]; omega) (by rw [hr.l2]; omega), nI_clamp (by omega), ob_some, q4, wn, ← hW]
    simp only [lt_eq]
    rw [p3, ob_some, r901 T3 f3, ob_some, show (47 : Int32) = nI 47 from rfl, p4, ob_some, r901 T4 f4, ob_some, x4.r905_0, ob_some, x4.sp27.r709_0, ob_some, e_entOf (cl T4 f4) x4.sp27 hm (by omega), ob_some, show enN N m u = nI (kN N (1173 + 3 * (10 * m + u))) from ew.1]
    simp only [lt_eq]
    rw [p5, ob_some, r901 T5 f5, ob_some, show (10 : Int32) = nI 10 from rfl, p6, ob_some]
  · unfold lnN
    simp only [← List.append_assoc]
    exact o6
theorem m_line (hx : FxF S) (w : WB (ai S 198) B) {l : List Nat} (o : OM S l) (hm : m < kN (ai S 198) 7) (hu : u < kN (ai S 198) 4) (hk : nmL (ai S 198) (clK (ai S 198) m u) k) (hl : l.length + (lnN (ai S 198) m u k).length ≤ 3000) (hF : 1000 ≤ F) :
    ∃ T, OmF S T ∧ OM T (l ++ lnN (ai S 198) m u k) ∧ ∀ {β : Type} (G : St → Option β), (Option.bind (f_X11_writeNumber F S 197 (nI m)) fun S12 =>
    Option.bind (f_X11_write F S12 197 ((58 : Int32))) fun S16 =>
    Option.bind (sr S16 1001 197) fun j19 =>
    Option.bind (f_X11_refAt F S16 (nI m) (nI u)) fun z20 => lt z20.1 fun r22 => lt z20.2 fun S21 =>
    cki (r22 + 1) (ln S21 j19) <|
    Option.bind (f_X11_writeClass F S21 197 (ai S21 j19 (Int32.toNatClampNeg (r22 + 1)))) fun S26 =>
    Option.bind (f_X11_write F S26 197 ((47 : Int32))) fun S30 =>
    Option.bind (sr S30 1001 197) fun j33 =>
    Option.bind (f_X11_refAt F S30 (nI m) (nI u)) fun z34 => lt z34.1 fun r36 => lt z34.2 fun S35 =>
    cki (r36 + 2) (ln S35 j33) <|
    Option.bind (f_X11_writeNumber F S35 197 (ai S35 j33 (Int32.toNatClampNeg (r36 + 2)))) fun S40 =>
    Option.bind (f_X11_write F S40 197 ((10 : Int32))) fun S44 => G S44) = G T := by
  have b3 := w.n3.2
  have b4 := w.n4.2
  have b7 := w.n7.2
  obtain ⟨N, hN⟩ : ∃ N, N = ai S 198 := ⟨_, rfl⟩
  rw [← hN] at w hm hu hk hl b3 b4 b7 ⊢
  obtain ⟨c1, c2⟩ := clK_lt w hm hu
  have ew := (w.wR m u hm (by omega)).2.2.1
  have ew2 := ew.2
  obtain ⟨k1, k2, k3⟩ := hk
  have hn : ∀ i, i < k → letB (N (14 + 9 * clK N m u + i)) := fun i hi => k2.2 i hi
  have ll : l.length + (cD m 5 false).length + 1 + k + 1 + (cD (kN N (1173 + 3 * (10 * m + u))) 5 false).length + 1 ≤ 3000 := by
    unfold lnN at hl
    simp only [List.length_append, List.length_cons, List.length_nil, lst_len] at hl
    omega
  have net : ∀ T, OmF S T → ai T 198 = N := fun T f => (f.2.2.1 198 (by omega)).trans hN.symm
  obtain ⟨T1, p1, f1, o1⟩ := m_writeNumber (F := F) hx o (v := m) (by omega) (by omega) hF
  have x1 := f1.fx hx
  obtain ⟨T2, p2, g2, o2⟩ := m_write (F := F) x1 o1 (v := 58) (by omega) (by rw [List.length_append]; omega)
  have f2 := f1.tr g2
  have x2 := f2.fx hx
  obtain ⟨T3, p3, g3, o3⟩ := m_writeClass (F := F) x2 o2 (c := clK N m u) (k := k) (by omega) k1 (fun i hi => by rw [net T2 f2]; exact hn i hi) (fun i h1 h2 => by rw [net T2 f2]; exact k3 i h1 h2) (by rw [List.length_append, List.length_append]; show l.length + _ + 1 + _ ≤ 3000; omega) hF
  rw [net T2 f2] at o3
  have f3 := f2.tr g3
  have x3 := f3.fx hx
  obtain ⟨T4, p4, g4, o4⟩ := m_write (F := F) x3 o3 (v := 47) (by omega) (by rw [List.length_append, List.length_append, List.length_append, lst_len]; show l.length + _ + 1 + _ < 3000; omega)
  have f4 := f3.tr g4
  have x4 := f4.fx hx
  obtain ⟨T5, p5, g5, o5⟩ := m_writeNumber (F := F) x4 o4 (v := kN N (1173 + 3 * (10 * m + u))) (by omega) (by rw [List.length_append, List.length_append, List.length_append, List.length_append, lst_len]; show l.length + _ + 1 + _ + 1 + _ ≤ 3000; omega) hF
  have f5 := f4.tr g5
  have x5 := f5.fx hx
  obtain ⟨T6, p6, g6, o6⟩ := m_write (F := F) x5 o5 (v := 10) (by omega) (by rw [List.length_append, List.length_append, List.length_append, List.length_append, List.length_append, lst_len]; show l.length + _ + 1 + _ + 1 + _ < 3000; omega)
  refine ⟨T6, f5.tr g6, ?_, fun G => ?_⟩
  · unfold lnN
    simp only [← List.append_assoc]
    exact o6
  · have e1 : ai T2 198 (1172 + 3 * (10 * m + u)) = nI (clK N m u) := by rw [net T2 f2]; exact c2
    have e2 : ai T4 198 (1173 + 3 * (10 * m + u)) = nI (kN N (1173 + 3 * (10 * m + u))) := by rw [net T4 f4]; exact ew.1
    rw [p1, ob_some, show (58 : Int32) = nI 58 from rfl, p2, ob_some, x2.r1001_197, ob_some, m_refAt, ob_some]
    simp only [lt_eq]
    rw [x2.l198, nI_1, show 1171 + 3 * (10 * m + u) + 1 = 1172 + 3 * (10 * m + u) by omega, cki_nI (by omega) (by omega), nI_clamp (by omega), e1, p3, ob_some, show (47 : Int32) = nI 47 from rfl, p4, ob_some, x4.r1001_197, ob_some, m_refAt, ob_some]
    simp only [lt_eq]
    rw [x4.l198, show (2 : Int32) = nI 2 from rfl, nI_add, show 1171 + 3 * (10 * m + u) + 2 = 1173 + 3 * (10 * m + u) by omega, cki_nI (by omega) (by omega), nI_clamp (by omega), e2, p5, ob_some, show (10 : Int32) = nI 10 from rfl, p6, ob_some]
end Li
