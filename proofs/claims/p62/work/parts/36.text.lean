/-! the law's text -/
def cs (x : Nat) : List Int32 := msB.getD x []
def ltr (c : Nat) : List Int32 := [nI (97 + c)]
def spT (a b : Nat) : List Int32 := cs 0 ++ decL a ++ cs 1 ++ decL b ++ cs 2
def clT (c d k t : Nat) : List Int32 := cs 3 ++ ltr c ++ cs 4 ++ (if d = 0 then cs 5 else decL d) ++ (if k = 0 then [] else cs 6 ++ decL k) ++ (if t = 0 then [] else cs 7 ++ ltr (t - 1)) ++ cs 2
def usT (u c q : Nat) : List Int32 := cs 8 ++ ltr u ++ cs 9 ++ ltr c ++ cs 10 ++ decL q ++ cs 2
def hoT (h u : Nat) (a b : Bool) : List Int32 := cs 11 ++ ltr h ++ cs 12 ++ ltr u ++ (if a = true then cs 13 else []) ++ (if b = true then cs 14 else []) ++ cs 2
def dB (X : XS) (k : Nat) : Bool := drX X k 2 == 0
def clQ (X : XS) : Nat → Nat → List Int32
  | _, 0 => []
  | c, d + 1 => clT c (dyX X c) (kpX X c) (thX X c) ++ clQ X (c + 1) d
def usQ (X : XS) : Nat → Nat → List Int32
  | _, 0 => []
  | u, d + 1 => usT u (coX X u) (quX X u) ++ usQ X (u + 1) d
def hoQ (X : XS) : Nat → Nat → List Int32
  | _, 0 => []
  | h, d + 1 => hoT h (hdX X h) (dB X (41 + 4 * h)) (dB X (42 + 4 * h)) ++ hoQ X (h + 1) d
def teX (X : XS) : List Int32 := spT (grX X) (inX X) ++ clQ X 0 (clX X) ++ usQ X 0 (usX X) ++ hoQ X 0 (hoX X)
theorem decL_2 {v : Nat} : (decL v).length ≤ 2 := decL_le
theorem cs_len : (cs 0).length = 12 ∧ (cs 1).length = 7 ∧ (cs 2).length = 1 ∧ (cs 3).length = 7 ∧ (cs 4).length = 6 ∧ (cs 5).length = 7 ∧ (cs 6).length = 6 ∧ (cs 7).length = 7 ∧ (cs 8).length = 6 ∧ (cs 9).length = 8 ∧ (cs 10).length = 7 ∧ (cs 11).length = 6 ∧ (cs 12).length = 7 ∧ (cs 13).length = 12 ∧ (cs 14).length = 8 := by decide
theorem cs_asc {x : Nat} (h : x < 41) : ascL (cs x) := fun c hc => ms_asc x h c hc
/-- the builder b holds l; what lies below m stands -/
def Bd (S0 S : St) (b m n : Nat) (l : List Int32) : Prop := (∃ v, SB S b v l ∧ m ≤ v ∧ v < n) ∧ (m ≤ b ∧ b < n) ∧ ∀ i, i < m → SameO S0 S i
section Bt
variable {F : Nat} {S0 S : St} {b m n : Nat} {l t : List Int32} {X : XS}
theorem Bd.of {T : St} {n' : Nat} (h : Bd S0 S b m n l) (r : SbR S T b m n n' t) : n ≤ n' ∧ Bd S0 T b m n' t := by
  obtain ⟨-, ⟨b1, b2⟩, fr⟩ := h
  obtain ⟨⟨v, v1, v2, v3⟩, r2, r3, r4⟩ := r
  exact ⟨r3, ⟨v, v1, v2, v3⟩, ⟨b1, r2⟩, fun i hi => (fr i hi).tr (r4 i hi)⟩
theorem b_S {x : Nat} (h : Bd S0 S b m n l) (tx : Tx S m x t) (ha : ascL t) (hq : (l ++ t).length ≤ 400) : ∃ T n', f_J4_append_15ec4 F S n b x = some (some b, T, n') ∧ n ≤ n' ∧ Bd S0 T b m n' (l ++ t) := by
  obtain ⟨⟨v, v1, v2, v3⟩, ⟨b1, b2⟩, fr⟩ := id h
  obtain ⟨T, n', e, r⟩ := e_appS (F := F) v1 b1 v2 b2 v3 tx ha hq
  exact ⟨T, n', e, h.of r⟩
theorem b_K {x : Nat} (hx : x < 41) (h : Bd S0 S b m n l) (hq : (l ++ cs x).length ≤ 400) : ∃ T n', f_J4_append_15ec4 F S n b x = some (some b, T, n') ∧ n ≤ n' ∧ Bd S0 T b m n' (l ++ cs x) := b_S h (Tx.cst hx) (cs_asc hx) hq
theorem b_C {c : Nat} (h : Bd S0 S b m n l) (hc : 97 + c ≤ 127) (hq : l.length + 1 ≤ 400) : ∃ T n', f_J4_append_cf468 F S n b (((97 + nI c).toUInt32 % 65536).toInt32) = some (some b, T, n') ∧ n ≤ n' ∧ Bd S0 T b m n' (l ++ ltr c) := by
  obtain ⟨⟨v, v1, v2, v3⟩, ⟨b1, b2⟩, fr⟩ := id h
  obtain ⟨T, n', e, r⟩ := e_appC (F := F) (c := 97 + c) v1 b1 v2 b2 v3 hc hq
  rw [show (97 : Int32) + nI c = nI (97 + c) from nI_add 97 c, (asc_tab (97 + c) hc).2.2.2.2.1]
  exact ⟨T, n', e, h.of r⟩
theorem b_I {w : Nat} (hF : 10 ≤ F) (h : Bd S0 S b m n l) (hw : w < 100) (hq : l.length + 2 ≤ 400) : ∃ T n', f_J4_append_bf812 F S n b (nI w) = some (some b, T, n') ∧ n ≤ n' ∧ Bd S0 T b m n' (l ++ decL w) := by
  obtain ⟨⟨v, v1, v2, v3⟩, ⟨b1, b2⟩, fr⟩ := id h
  obtain ⟨T, n', e, r⟩ := e_appI (F := F) hF v1 b1 v2 b2 v3 hw hq
  exact ⟨T, n', e, h.of r⟩
theorem clT_len (c d k t : Nat) : (clT c d k t).length ≤ 40 := by
  obtain ⟨l0, l1, l2, l3, l4, l5, l6, l7, -⟩ := cs_len
  have a := decL_2 (v := d)
  have b := decL_2 (v := k)
  unfold clT ltr
  simp only [List.length_append, l2, l3, l4, List.length_cons, List.length_nil]
  have e1 : (if d = 0 then cs 5 else decL d).length ≤ 7 := by split <;> omega
  have e2 : (if k = 0 then ([] : List Int32) else cs 6 ++ decL k).length ≤ 8 := by
    split
    · simp
    · rw [List.length_append]; omega
  have e3 : (if t = 0 then ([] : List Int32) else cs 7 ++ [nI (97 + (t - 1))]).length ≤ 8 := by
    split
    · simp
    · rw [List.length_append, l7]; simp
  omega
theorem usT_len (u c q : Nat) : (usT u c q).length ≤ 30 := by
  obtain ⟨l0, l1, l2, l3, l4, l5, l6, l7, l8, l9, l10, -⟩ := cs_len
  have a := decL_2 (v := q)
  unfold usT ltr
  simp only [List.length_append, l2, l8, l9, l10, List.length_cons, List.length_nil]
  omega
theorem hoT_len (h u : Nat) (a b : Bool) : (hoT h u a b).length ≤ 40 := by
  obtain ⟨l0, l1, l2, l3, l4, l5, l6, l7, l8, l9, l10, l11, l12, l13, l14⟩ := cs_len
  unfold hoT ltr
  simp only [List.length_append, l2, l11, l12, List.length_cons, List.length_nil]
  have e1 : (if a = true then cs 13 else []).length ≤ 12 := by split <;> simp [l13]
  have e2 : (if b = true then cs 14 else []).length ≤ 8 := by split <;> simp [l14]
  omega
/-- the holds -/
theorem t_hol (hX : X.2 ≤ 260) : ∀ d c fu S n l, c + d = hoX X → d < fu → Bd S0 S b m n l → l.length + 40 * d ≤ 400 → 197 ≤ n →
    ∃ T n' y, f_L_text_L223 F fu S n X b (nI c) = some (y + 41, T, n') ∧ n ≤ n' ∧ n ≤ y ∧ Tx T n' (y + 41) (l ++ hoQ X c d) ∧ ∀ i, i < m → SameO S0 T i := by
  intro d
  have hb := hoX_b X
  induction d with
  | zero =>
    intro c fu S n l hc hfu h hl hn
    obtain ⟨fu, rfl⟩ : ∃ q, fu = q + 1 := ⟨fu - 1, by omega⟩
    obtain ⟨⟨v, v1, v2, v3⟩, ⟨b1, b2⟩, fr⟩ := id h
    obtain ⟨T, n', e, t1, t2, t3⟩ := e_toS (F := F) v1 b2 v3 hn
    refine ⟨T, n', n, ?_, by omega, Nat.le_refl _, ?_, fun i hi => (fr i hi).tr (t3 i (by omega))⟩
    · unfold f_L_text_L223
      rw [e_holds hX, ob_some]
      simp only [lt_eq]
      rw [if_pos (nI_le (by omega) (by omega)), e, ob_some]
    · show Tx T n' (n + 41) (l ++ [])
      rw [List.append_nil]; exact t1
  | succ d ih =>
    intro c fu S n l hc hfu h hl hn
    obtain ⟨fu, rfl⟩ : ∃ q, fu = q + 1 := ⟨fu - 1, by omega⟩
    obtain ⟨l0, l1, l2, l3, l4, l5, l6, l7, l8, l9, l10, l11, l12, l13, l14⟩ := cs_len
    have hd := hdX_b X c
    have hu := usX_b X
    obtain ⟨T1, n1, e1, m1, h1⟩ := b_K (F := F) (x := 11) (by omega) h (by simp only [List.length_append]; omega)
    obtain ⟨T2, n2, e2, m2, h2⟩ := b_C (F := F) (c := c) h1 (by omega) (by simp only [List.length_append]; omega)
    obtain ⟨T3, n3, e3, m3, h3⟩ := b_K (F := F) (x := 12) (by omega) h2 (by simp only [List.length_append, ltr, List.length_cons, List.length_nil]; omega)
    obtain ⟨T4, n4, e4, m4, h4⟩ := b_C (F := F) (c := hdX X c) h3 (by omega) (by simp only [List.length_append, ltr, List.length_cons, List.length_nil]; omega)
    have last : ∀ (T : St) (k : Nat) (l' : List Int32), n ≤ k → Bd S0 T b m k l' → l' ++ cs 2 = l ++ hoT c (hdX X c) (dB X (41 + 4 * c)) (dB X (42 + 4 * c)) → ∃ T' n' y, f_L_text_L293 F (fun a0 a1 a2 a3 a4 => f_L_text_L223 F fu a0 a1 a2 a3 a4) T k X b (nI c) = some (y + 41, T', n') ∧ n ≤ n' ∧ n ≤ y ∧ Tx T' n' (y + 41) (l ++ hoQ X c (d + 1)) ∧ ∀ i, i < m → SameO S0 T' i := by
      intro T k l' hk h' e'
      have le : (l' ++ cs 2).length ≤ l.length + 40 := by rw [e', List.length_append]; have := hoT_len c (hdX X c) (dB X (41 + 4 * c)) (dB X (42 + 4 * c)); omega
      obtain ⟨T9, n9, e9, m9, h9⟩ := b_K (F := F) (x := 2) (by omega) h' (by omega)
      obtain ⟨U, n', y, u1, u2, u3, u4, u5⟩ := ih (c + 1) fu T9 n9 (l' ++ cs 2) (by omega) (by omega) h9 (by omega) (by omega)
      refine ⟨U, n', y, ?_, by omega, by omega, ?_, u5⟩
      · unfold f_L_text_L293
        rw [e9, ob_some]
        simp only [lt_eq, ob_some]
        rw [show nI c + 1 = nI (c + 1) from nI_add c 1]
        exact u1
      · rw [e', List.append_assoc] at u4
        exact u4
    have word : ∀ (T : St) (k : Nat) (l' : List Int32), n ≤ k → Bd S0 T b m k l' → l'.length ≤ l.length + 27 → l' ++ ((if dB X (42 + 4 * c) = true then cs 14 else []) ++ cs 2) = l ++ hoT c (hdX X c) (dB X (41 + 4 * c)) (dB X (42 + 4 * c)) → ∃ T' n' y, f_L_text_L278 F (fun a0 a1 a2 a3 a4 => f_L_text_L223 F fu a0 a1 a2 a3 a4) T k X b (nI c) = some (y + 41, T', n') ∧ n ≤ n' ∧ n ≤ y ∧ Tx T' n' (y + 41) (l ++ hoQ X c (d + 1)) ∧ ∀ i, i < m → SameO S0 T' i := by
      intro T k l' hk h' hl' e'
      unfold f_L_text_L278
      rw [e_hasWordL hX (by omega), ob_some]
      simp only [lt_eq]
      by_cases z : hwX X c
      · have zb : dB X (42 + 4 * c) = true := by unfold dB; rw [beq_iff_eq]; exact z
        rw [if_pos zb] at e'
        obtain ⟨T8, n8, e8, m8, h8⟩ := b_K (F := F) (x := 14) (by omega) h' (by simp only [List.length_append]; omega)
        rw [pI_t z, if_neg (show ¬ (1 : Int32) = 0 by decide), e8, ob_some]
        simp only [ob_some]
        exact last T8 n8 _ (by omega) h8 (by rw [List.append_assoc]; exact e')
      · have zb : ¬ dB X (42 + 4 * c) = true := by unfold dB; rw [beq_iff_eq]; exact z
        rw [if_neg zb, List.nil_append] at e'
        rw [pI_f z, if_pos rfl]
        exact last T k l' hk h' e'
    have le4 : (l ++ cs 11 ++ ltr c ++ cs 12 ++ ltr (hdX X c)).length ≤ l.length + 15 := by simp only [List.length_append, ltr, List.length_cons, List.length_nil]; omega
    unfold f_L_text_L223
    rw [e_holds hX, ob_some]
    simp only [lt_eq]
    rw [if_neg (nI_ge (by omega) (by omega)), e1, ob_some]
    simp only [ob_some]
    rw [e2, ob_some]
    simp only [ob_some]
    rw [e3, ob_some]
    simp only [ob_some]
    rw [e_holder hX (by omega), ob_some]
    simp only []
    rw [e4, ob_some]
    simp only [ob_some]
    rw [e_hasDays hX (by omega), ob_some]
    simp only []
    by_cases z : hfX X c
    · have zb : dB X (41 + 4 * c) = true := by unfold dB; rw [beq_iff_eq]; exact z
      obtain ⟨T5, n5, e5, m5, h5⟩ := b_K (F := F) (x := 13) (by omega) h4 (by rw [List.length_append]; omega)
      rw [pI_t z, if_neg (show ¬ (1 : Int32) = 0 by decide), e5, ob_some]
      simp only [ob_some]
      exact word T5 n5 _ (by omega) h5 (by rw [List.length_append]; omega) (by unfold hoT; rw [if_pos zb]; simp only [List.append_assoc])
    · have zb : ¬ dB X (41 + 4 * c) = true := by unfold dB; rw [beq_iff_eq]; exact z
      rw [pI_f z, if_pos rfl]
      exact word T4 n4 _ (by omega) h4 (by omega) (by unfold hoT; rw [if_neg zb]; simp only [List.append_assoc, List.nil_append])
/-- the users -/
theorem t_usr (hX : X.2 ≤ 260) (hF : 10 ≤ F) : ∀ d c fu S n l, c + d = usX X → d < fu → Bd S0 S b m n l → l.length + 30 * d ≤ 310 → 197 ≤ n →
    ∃ T n' , f_L_text_L157 F fu S n X b (nI c) = f_L_text_L223 F 6 T n' X b 0 ∧ n ≤ n' ∧ Bd S0 T b m n' (l ++ usQ X c d) := by
  intro d
  have hu := usX_b X
  have hcl := clX_b X
  induction d with
  | zero =>
    intro c fu S n l hc hfu h hl hn
    obtain ⟨fu, rfl⟩ : ∃ q, fu = q + 1 := ⟨fu - 1, by omega⟩
    refine ⟨S, n, ?_, Nat.le_refl _, ?_⟩
    · conv => lhs; unfold f_L_text_L157
      rw [e_usersL hX, ob_some]
      simp only [lt_eq]
      rw [if_pos (nI_le (by omega) (by omega))]
    · show Bd S0 S b m n (l ++ [])
      rw [List.append_nil]; exact h
  | succ d ih =>
    intro c fu S n l hc hfu h hl hn
    obtain ⟨fu, rfl⟩ : ∃ q, fu = q + 1 := ⟨fu - 1, by omega⟩
    obtain ⟨l0, l1, l2, l3, l4, l5, l6, l7, l8, l9, l10, -⟩ := cs_len
    have hco := coX_b X c
    have hq := quX_b X c
    have dl := decL_2 (v := quX X c)
    obtain ⟨T1, n1, e1, m1, h1⟩ := b_K (F := F) (x := 8) (by omega) h (by simp only [List.length_append]; omega)
    obtain ⟨T2, n2, e2, m2, h2⟩ := b_C (F := F) (c := c) h1 (by omega) (by simp only [List.length_append]; omega)
    obtain ⟨T3, n3, e3, m3, h3⟩ := b_K (F := F) (x := 9) (by omega) h2 (by simp only [List.length_append, ltr, List.length_cons, List.length_nil]; omega)
    obtain ⟨T4, n4, e4, m4, h4⟩ := b_C (F := F) (c := coX X c) h3 (by omega) (by simp only [List.length_append, ltr, List.length_cons, List.length_nil]; omega)
    obtain ⟨T5, n5, e5, m5, h5⟩ := b_K (F := F) (x := 10) (by omega) h4 (by simp only [List.length_append, ltr, List.length_cons, List.length_nil]; omega)
    obtain ⟨T6, n6, e6, m6, h6⟩ := b_I (F := F) (w := quX X c) hF h5 (by omega) (by simp only [List.length_append, ltr, List.length_cons, List.length_nil]; omega)
    obtain ⟨T7, n7, e7, m7, h7⟩ := b_K (F := F) (x := 2) (by omega) h6 (by simp only [List.length_append, ltr, List.length_cons, List.length_nil]; omega)
    have eq : l ++ cs 8 ++ ltr c ++ cs 9 ++ ltr (coX X c) ++ cs 10 ++ decL (quX X c) ++ cs 2 = l ++ usT c (coX X c) (quX X c) := by unfold usT; simp only [List.append_assoc]
    rw [eq] at h7
    have ul := usT_len c (coX X c) (quX X c)
    obtain ⟨U, n', u1, u2, u3⟩ := ih (c + 1) fu T7 n7 _ (by omega) (by omega) h7 (by rw [List.length_append]; omega) (by omega)
    refine ⟨U, n', ?_, by omega, ?_⟩
    · conv => lhs; unfold f_L_text_L157
      rw [e_usersL hX, ob_some]
      simp only [lt_eq]
      rw [if_neg (nI_ge (by omega) (by omega)), e1, ob_some]
      simp only [ob_some]
      rw [e2, ob_some]
      simp only [ob_some]
      rw [e3, ob_some]
      simp only [ob_some]
      rw [e_classOf hX (by omega), ob_some]
      simp only []
      rw [e4, ob_some]
      simp only [ob_some]
      rw [e5, ob_some]
      simp only [ob_some]
      rw [e_quota hX (by omega), ob_some]
      simp only []
      rw [e6, ob_some]
      simp only [ob_some]
      rw [e7, ob_some]
      simp only [ob_some]
      rw [show nI c + 1 = nI (c + 1) from nI_add c 1]
      exact u1
    · rw [List.append_assoc] at u3
      exact u3
/-- the classes -/
theorem t_cls (hX : X.2 ≤ 260) (hF : 10 ≤ F) : ∀ d c fu S n l, c + d = clX X → d < fu → Bd S0 S b m n l → l.length + 40 * d ≤ 200 → 197 ≤ n →
    ∃ T n' , f_L_text_L36 F fu S n X b (nI c) = f_L_text_L157 F 6 T n' X b 0 ∧ n ≤ n' ∧ Bd S0 T b m n' (l ++ clQ X c d) := by
  intro d
  have hcl := clX_b X
  induction d with
  | zero =>
    intro c fu S n l hc hfu h hl hn
    obtain ⟨fu, rfl⟩ : ∃ q, fu = q + 1 := ⟨fu - 1, by omega⟩
    refine ⟨S, n, ?_, Nat.le_refl _, ?_⟩
    · conv => lhs; unfold f_L_text_L36
      rw [e_classes hX, ob_some]
      simp only [lt_eq]
      rw [if_pos (nI_le (by omega) (by omega))]
    · show Bd S0 S b m n (l ++ [])
      rw [List.append_nil]; exact h
  | succ d ih =>
    intro c fu S n l hc hfu h hl hn
    obtain ⟨fu, rfl⟩ : ∃ q, fu = q + 1 := ⟨fu - 1, by omega⟩
    obtain ⟨l0, l1, l2, l3, l4, l5, l6, l7, -⟩ := cs_len
    have hd := dyX_b X c
    have hk := kpX_b X c
    have ht := thX_b X c
    have d1 := decL_2 (v := dyX X c)
    have d2 := decL_2 (v := kpX X c)
    obtain ⟨T1, n1, e1, m1, h1⟩ := b_K (F := F) (x := 3) (by omega) h (by simp only [List.length_append]; omega)
    obtain ⟨T2, n2, e2, m2, h2⟩ := b_C (F := F) (c := c) h1 (by omega) (by simp only [List.length_append]; omega)
    obtain ⟨T3, n3, e3, m3, h3⟩ := b_K (F := F) (x := 4) (by omega) h2 (by simp only [List.length_append, ltr, List.length_cons, List.length_nil]; omega)
    have le3 : (l ++ cs 3 ++ ltr c ++ cs 4).length = l.length + 14 := by simp only [List.length_append, ltr, List.length_cons, List.length_nil]; omega
    have last : ∀ (T : St) (k : Nat) (l' : List Int32), n ≤ k → Bd S0 T b m k l' → l' ++ cs 2 = l ++ clT c (dyX X c) (kpX X c) (thX X c) → ∃ T' n', f_L_text_L142 F (fun a0 a1 a2 a3 a4 => f_L_text_L36 F fu a0 a1 a2 a3 a4) T k X b (nI c) = f_L_text_L157 F 6 T' n' X b 0 ∧ n ≤ n' ∧ Bd S0 T' b m n' (l ++ clQ X c (d + 1)) := by
      intro T k l' hk h' e'
      have le : (l' ++ cs 2).length ≤ l.length + 40 := by rw [e', List.length_append]; have := clT_len c (dyX X c) (kpX X c) (thX X c); omega
      obtain ⟨T9, n9, e9, m9, h9⟩ := b_K (F := F) (x := 2) (by omega) h' (by omega)
      obtain ⟨U, n', u1, u2, u3⟩ := ih (c + 1) fu T9 n9 (l' ++ cs 2) (by omega) (by omega) h9 (by omega) (by omega)
      refine ⟨U, n', ?_, by omega, ?_⟩
      · unfold f_L_text_L142
        rw [e9, ob_some]
        simp only [lt_eq, ob_some]
        rw [show nI c + 1 = nI (c + 1) from nI_add c 1]
        exact u1
      · rw [e', List.append_assoc] at u3
        exact u3
    have then_ : ∀ (T : St) (k : Nat) (l' : List Int32), n ≤ k → Bd S0 T b m k l' → l'.length ≤ l.length + 30 → l' ++ ((if thX X c = 0 then [] else cs 7 ++ ltr (thX X c - 1)) ++ cs 2) = l ++ clT c (dyX X c) (kpX X c) (thX X c) → ∃ T' n', f_L_text_L115 F (fun a0 a1 a2 a3 a4 => f_L_text_L36 F fu a0 a1 a2 a3 a4) T k X b (nI c) = f_L_text_L157 F 6 T' n' X b 0 ∧ n ≤ n' ∧ Bd S0 T' b m n' (l ++ clQ X c (d + 1)) := by
      intro T k l' hk h' hl' e'
      unfold f_L_text_L115
      rw [e_then hX (by omega), ob_some]
      simp only [lt_eq]
      by_cases z : thX X c = 0
      · have ti : thI X c = -1 := if_pos z
        rw [if_pos z, List.nil_append] at e'
        rw [ti, if_pos (by decide)]
        exact last T k l' hk h' e'
      · have ti : thI X c = nI (thX X c - 1) := if_neg z
        rw [if_neg z] at e'
        obtain ⟨T7, n7, e7, m7, h7⟩ := b_K (F := F) (x := 7) (by omega) h' (by rw [List.length_append]; omega)
        obtain ⟨T8, n8, e8, m8, h8⟩ := b_C (F := F) (c := thX X c - 1) h7 (by omega) (by rw [List.length_append]; omega)
        rw [ti, if_neg (nI_pos (by omega)), e7, ob_some]
        simp only [ob_some]
        rw [e_then hX (by omega), ob_some]
        simp only []
        rw [ti, e8, ob_some]
        simp only [ob_some]
        exact last T8 n8 _ (by omega) h8 (by rw [List.append_assoc, List.append_assoc, ← List.append_assoc (cs 7)]; exact e')
    have keep_ : ∀ (T : St) (k : Nat) (l' : List Int32), n ≤ k → Bd S0 T b m k l' → l'.length ≤ l.length + 22 → l' ++ ((if kpX X c = 0 then [] else cs 6 ++ decL (kpX X c)) ++ ((if thX X c = 0 then [] else cs 7 ++ ltr (thX X c - 1)) ++ cs 2)) = l ++ clT c (dyX X c) (kpX X c) (thX X c) → ∃ T' n', f_L_text_L92 F (fun a0 a1 a2 a3 a4 => f_L_text_L36 F fu a0 a1 a2 a3 a4) T k X b (nI c) = f_L_text_L157 F 6 T' n' X b 0 ∧ n ≤ n' ∧ Bd S0 T' b m n' (l ++ clQ X c (d + 1)) := by
      intro T k l' hk' h' hl' e'
      unfold f_L_text_L92
      rw [e_keep hX (by omega), ob_some]
      simp only [lt_eq]
      by_cases z : kpX X c = 0
      · rw [if_pos z, List.nil_append] at e'
        rw [if_pos (by rw [z]; decide)]
        exact then_ T k l' hk' h' (by omega) e'
      · rw [if_neg z] at e'
        obtain ⟨T7, n7, e7, m7, h7⟩ := b_K (F := F) (x := 6) (by omega) h' (by rw [List.length_append]; omega)
        obtain ⟨T8, n8, e8, m8, h8⟩ := b_I (F := F) (w := kpX X c) hF h7 (by omega) (by rw [List.length_append]; omega)
        rw [if_neg (show ¬ nI (kpX X c) ≤ (0 : Int32) from nI_ge (a := 0) (by omega) (by omega)), e7, ob_some]
        simp only [ob_some]
        rw [e_keep hX (by omega), ob_some]
        simp only []
        rw [e8, ob_some]
        simp only [ob_some]
        exact then_ T8 n8 _ (by omega) h8 (by rw [List.length_append, List.length_append]; omega) (by rw [List.append_assoc, List.append_assoc, ← List.append_assoc (cs 6)]; exact e')
    conv => arg 1; intro T; arg 1; intro n'; lhs; lhs; unfold f_L_text_L36
    rw [e_classes hX, ob_some]
    simp only [lt_eq]
    rw [if_neg (nI_ge (by omega) (by omega)), e1, ob_some]
    simp only [ob_some]
    rw [e2, ob_some]
    simp only [ob_some]
    rw [e3, ob_some]
    simp only [ob_some]
    rw [e_days hX (by omega), ob_some]
    simp only []
    by_cases z : dyX X c = 0
    · have di : dyI X c = -1 := if_pos z
      obtain ⟨T4, n4, e4, m4, h4⟩ := b_K (F := F) (x := 5) (by omega) h3 (by rw [List.length_append]; omega)
      rw [di, if_neg (by decide), e4, ob_some]
      simp only [ob_some]
      exact keep_ T4 n4 _ (by omega) h4 (by rw [List.length_append]; omega) (by unfold clT; rw [if_pos z]; simp only [List.append_assoc])
    · have di : dyI X c = nI (dyX X c) := if_neg z
      obtain ⟨T4, n4, e4, m4, h4⟩ := b_I (F := F) (w := dyX X c) hF h3 (by omega) (by omega)
      rw [di, if_pos (show (0 : Int32) ≤ nI (dyX X c) from nI_le (a := 0) (by omega) (by omega)), e_days hX (by omega), ob_some]
      simp only []
      rw [di, e4, ob_some]
      simp only [ob_some]
      exact keep_ T4 n4 _ (by omega) h4 (by rw [List.length_append]; omega) (by unfold clT; rw [if_neg z]; simp only [List.append_assoc])
theorem e_text (hX : X.2 ≤ 260) (hF : 100 ≤ F) (hn : 197 ≤ n) : ∃ T n' y, f_L_text F S n X = some (y, T, n') ∧ n ≤ n' ∧ Tx T n' y (teX X) ∧ ∀ i, i < n → SameO S T i := by
  obtain ⟨l0, l1, l2, -⟩ := cs_len
  have hg := grX_b X
  have hi := inX_b X
  have hcl := clX_b X
  have hus := usX_b X
  have hho := hoX_b X
  have d1 := decL_2 (v := grX X)
  have d2 := decL_2 (v := inX X)
  have z3 : si (nob S n) 1003 n = 0 := by rw [si_nob, if_pos rfl]
  have z1 : si (nob S n) 1001 n = 0 := by rw [si_nob, if_pos rfl]
  obtain ⟨T1, n1, e1, r1⟩ := e_newS (F := F) (S := nob S n) (b := n) (m := n) (n := n + 1) (x := 0) (t := cs 0) (by omega) (Nat.le_refl _) (Tx.cst (by omega)) (cs_asc (by omega)) (by omega) z3 z1
  obtain ⟨⟨v, v1, v2, v3⟩, r2, r3, r4⟩ := r1
  have h1 : Bd S T1 n n n1 (cs 0) := ⟨⟨v, v1, v2, v3⟩, ⟨Nat.le_refl _, r2⟩, fun i hi => (SameO.nob (by omega)).tr (r4 i hi)⟩
  obtain ⟨T2, n2, e2, m2, h2⟩ := b_I (F := F) (w := grX X) (by omega) h1 (by omega) (by omega)
  obtain ⟨T3, n3, e3, m3, h3⟩ := b_K (F := F) (x := 1) (by omega) h2 (by simp only [List.length_append]; omega)
  obtain ⟨T4, n4, e4, m4, h4⟩ := b_I (F := F) (w := inX X) (by omega) h3 (by omega) (by simp only [List.length_append]; omega)
  obtain ⟨T5, n5, e5, m5, h5⟩ := b_K (F := F) (x := 2) (by omega) h4 (by simp only [List.length_append]; omega)
  have le5 : (cs 0 ++ decL (grX X) ++ cs 1 ++ decL (inX X) ++ cs 2).length ≤ 30 := by simp only [List.length_append]; omega
  obtain ⟨T6, n6, e6, m6, h6⟩ := t_cls (F := F) hX (by omega) (clX X) 0 6 T5 n5 _ (by omega) (by omega) h5 (by omega) (by omega)
  have le6 : ∀ d c, (clQ X c d).length ≤ 40 * d := by
    intro d
    induction d with
    | zero => intro c; exact Nat.le_refl _
    | succ d ih =>
      intro c
      have := ih (c + 1)
      have := clT_len c (dyX X c) (kpX X c) (thX X c)
      show List.length (_ ++ _ : List Int32) ≤ _
      rw [List.length_append]; omega
  have le7 : ∀ d c, (usQ X c d).length ≤ 30 * d := by
    intro d
    induction d with
    | zero => intro c; exact Nat.le_refl _
    | succ d ih =>
      intro c
      have := ih (c + 1)
      have := usT_len c (coX X c) (quX X c)
      show List.length (_ ++ _ : List Int32) ≤ _
      rw [List.length_append]; omega
  have q6 := le6 (clX X) 0
  have q7 := le7 (usX X) 0
  obtain ⟨T7, n7, e7, m7, h7⟩ := t_usr (F := F) hX (by omega) (usX X) 0 6 T6 n6 _ (by omega) (by omega) h6 (by rw [List.length_append]; omega) (by omega)
  obtain ⟨T8, n8, y, e8, m8, y8, t8, f8⟩ := t_hol (F := F) hX (hoX X) 0 6 T7 n7 _ (by omega) (by omega) h7 (by rw [List.length_append, List.length_append]; omega) (by omega)
  refine ⟨T8, n8, y + 41, ?_, by omega, t8, f8⟩
  unfold f_L_text
  simp only [lt_eq]
  rw [e1, ob_some]
  simp only []
  rw [e_grace hX, ob_some]
  simp only []
  rw [e2, ob_some]
  simp only [ob_some]
  rw [e3, ob_some]
  simp only [ob_some]
  rw [e_interval hX, ob_some]
  simp only []
  rw [e4, ob_some]
  simp only [ob_some]
  rw [e5, ob_some]
  simp only [ob_some]
  have e6' : f_L_text_L36 F 6 T5 n5 X n 0 = _ := e6
  have e7' : f_L_text_L157 F 6 T6 n6 X n 0 = _ := e7
  rw [e6', e7']
  exact e8
end Bt
