/-! the whole good text -/
theorem chL_r {l1 r : List Int32} (i : Nat) : chL (l1 ++ r) (l1.length + i) = chL r i := by
  unfold chL
  rw [getD_app_r (by omega), Nat.add_sub_cancel_left]
theorem chL_l {l r : List Int32} {i : Nat} (h : i < l.length) : chL (l ++ r) i = chL l i := getD_app_l h
theorem last_i {w : List Int32} (h : w.getLast? = some 59) : 1 ≤ w.length ∧ chL w (w.length - 1) = 59 := by
  have n : ¬ w.length = 0 := fun y => by
    have : w = [] := List.eq_nil_of_length_eq_zero y
    rw [this] at h; cases h
  refine ⟨by omega, ?_⟩
  rw [List.getLast?_eq_getElem?] at h
  unfold chL
  rw [List.getD_eq_getElem?_getD, h]
  rfl
/-- what may follow a statement -/
def St0 (l : List Int32) : Prop := l = [] ∨ (1 ≤ l.length ∧ letE (byK (chL l) 0) = true)
theorem Em.of {l1 w l2 : List Int32} (hw : w.getLast? = some 59) (h2 : St0 l2) : Em (chL (l1 ++ (w ++ l2))) (l1 ++ (w ++ l2)).length l1.length w := by
  obtain ⟨w1, w2⟩ := last_i hw
  refine ⟨by rw [List.length_append, List.length_append]; omega, fun i hi => by rw [chL_r, chL_l hi], w1, w2, ?_⟩
  rcases h2 with y | ⟨y1, y2⟩
  · left
    rw [y, List.append_nil, List.length_append]
  · right
    have : byK (chL (l1 ++ (w ++ l2))) (l1.length + w.length) = byK (chL l2) 0 := by
      unfold byK
      rw [chL_r, show w.length = w.length + 0 from rfl, chL_r]
    rw [this]
    exact y2
theorem St0.cons {w r : List Int32} {a : Int32} (hw : 1 ≤ w.length) (h : chL w 0 = a) (ha : letE (a &&& 255) = true) : St0 (w ++ r) := Or.inr ⟨by rw [List.length_append]; omega, by unfold byK; rw [chL_l (by omega), h]; exact ha⟩
theorem lo_step {f D D' : PD} {L s s' fu : Nat} (hs : s < L) (h : pSt f L D s = some (.inr (s', D'))) : pLo f L (fu + 1) D s = pLo f L fu D' s' := by
  show (if L ≤ s then _ else _) = _
  rw [if_neg (by omega), h]
theorem lo_end {f D : PD} {L fu : Nat} : pLo f L fu D L = some (.inr (L, D)) := by
  cases fu with
  | zero => rfl
  | succ fu =>
    show (if L ≤ L then _ else _) = _
    rw [if_pos (Nat.le_refl _)]
theorem cl_i {c d k t : Nat} (hc : c < 4) (hd : d < 13) (hk : k < 3) (ht : t < 5) : (clT c d k t).getLast? = some 59 ∧ chL (clT c d k t) 0 = 99 := by
  have B := cl_all c hc d hd k hk t ht
  unfold clB at B
  rw [Bool.and_eq_true, Bool.and_eq_true, beq_iff_eq, beq_iff_eq] at B
  exact ⟨B.1, B.2.1⟩
theorem us_i {u c q : Nat} (hu : u < 3) (hc : c < 4) (hq : 10 ≤ q ∧ q < 100) : (usT u c q).getLast? = some 59 ∧ chL (usT u c q) 0 = 117 := by
  have B := (us_all u hu c hc q hq.2).resolve_left (by omega)
  unfold usB at B
  rw [Bool.and_eq_true, Bool.and_eq_true, beq_iff_eq, beq_iff_eq] at B
  exact ⟨B.1, B.2.1⟩
theorem ho_i {h u : Nat} {a b : Bool} (hh : h < 2) (hu : u < 3) : (hoT h u a b).getLast? = some 59 ∧ chL (hoT h u a b) 0 = 104 := by
  have B : hoB h u a b = true := by
    obtain ⟨q1, q2, q3, q4⟩ := ho_all h hh u hu
    cases a with
    | false => cases b with
      | false => exact q1
      | true => exact q2
    | true => cases b with
      | false => exact q3
      | true => exact q4
  unfold hoB at B
  rw [Bool.and_eq_true, Bool.and_eq_true, beq_iff_eq, beq_iff_eq] at B
  exact ⟨B.1, B.2.1⟩
section Wh
variable {X : XS}
/-- after c classes; after u users; after h holds -/
def Ic (D : PD) (c : Nat) : Prop := kN D 3 = c ∧ (∀ x, x < c → nm2 D (14 + 9 * x) 99 x) ∧ kN D 4 = 0 ∧ kN D 5 = 0 ∧ kN D 6 = 0
def Iu (X : XS) (D : PD) (u : Nat) : Prop := kN D 3 = clX X ∧ (∀ x, x < clX X → nm2 D (14 + 9 * x) 99 x) ∧ kN D 4 = u ∧ (∀ x, x < u → nm2 D (85 + 8 * x) 117 x) ∧ (∀ x, x < u → D (83 + 8 * x) = nI (coX X x) ∧ D (84 + 8 * x) = nI (quX X x)) ∧ kN D 5 = 0 ∧ kN D 6 = 0
def Ih (X : XS) (D : PD) (h : Nat) : Prop := kN D 3 = clX X ∧ kN D 4 = usX X ∧ (∀ x, x < usX X → nm2 D (85 + 8 * x) 117 x) ∧ (∀ x, x < usX X → D (83 + 8 * x) = nI (coX X x) ∧ D (84 + 8 * x) = nI (quX X x)) ∧ kN D 6 = h ∧ ∀ x, x < h → nm2 D (220 + 21 * x) 104 x
theorem s0_ho : ∀ d h, h + d = hoX X → St0 (hoQ X h d) := by
  intro d h hh
  have hb := hoX_b X
  cases d with
  | zero => exact Or.inl rfl
  | succ d =>
    have hd := hdX_b X h
    have hu := usX_b X
    obtain ⟨i1, i2⟩ := ho_i (h := h) (u := hdX X h) (a := dB X (41 + 4 * h)) (b := dB X (42 + 4 * h)) (by omega) (by omega)
    exact St0.cons (last_i i1).1 i2 (by decide)
theorem s0_us : ∀ d u, u + d = usX X → ∀ r, St0 r → St0 (usQ X u d ++ r) := by
  intro d u hu r hr
  have hb := usX_b X
  cases d with
  | zero => exact hr
  | succ d =>
    have hc := coX_b X u
    have hcl := clX_b X
    have hq := quX_b X u
    obtain ⟨i1, i2⟩ := us_i (u := u) (c := coX X u) (q := quX X u) (by omega) (by omega) ⟨by omega, by omega⟩
    show St0 ((usT u (coX X u) (quX X u) ++ usQ X (u + 1) d) ++ r)
    rw [List.append_assoc]
    exact St0.cons (last_i i1).1 i2 (by decide)
theorem s0_cl : ∀ d c, c + d = clX X → ∀ r, St0 r → St0 (clQ X c d ++ r) := by
  intro d c hc r hr
  have hb := clX_b X
  cases d with
  | zero => exact hr
  | succ d =>
    have h1 := dyX_b X c
    have h2 := kpX_b X c
    have h3 := thX_b X c
    obtain ⟨i1, i2⟩ := cl_i (c := c) (d := dyX X c) (k := kpX X c) (t := thX X c) (by omega) (by omega) (by omega) (by omega)
    show St0 ((clT c (dyX X c) (kpX X c) (thX X c) ++ clQ X (c + 1) d) ++ r)
    rw [List.append_assoc]
    exact St0.cons (last_i i1).1 i2 (by decide)
theorem lo_cl {T r : List Int32} (hr : St0 r) : ∀ d c fu D l1, c + d = clX X → T = l1 ++ (clQ X c d ++ r) → Ic D c → ∃ D', pLo (chL T) T.length (fu + d) D l1.length = pLo (chL T) T.length fu D' (l1 ++ clQ X c d).length ∧ Ic D' (clX X) := by
  have hb := clX_b X
  intro d
  induction d with
  | zero =>
    intro c fu D l1 hc hT h
    refine ⟨D, ?_, ?_⟩
    · show pLo _ _ fu D l1.length = pLo _ _ fu D (l1 ++ []).length
      rw [List.append_nil]
    · rw [show clX X = c by omega]; exact h
  | succ d ih =>
    intro c fu D l1 hc hT h
    have h1 := dyX_b X c
    have h2 := kpX_b X c
    have h3 := thX_b X c
    obtain ⟨i1, i2⟩ := cl_i (c := c) (d := dyX X c) (k := kpX X c) (t := thX X c) (by omega) (by omega) (by omega) (by omega)
    have hT' : T = l1 ++ (clT c (dyX X c) (kpX X c) (thX X c) ++ (clQ X (c + 1) d ++ r)) := by rw [hT]; show l1 ++ ((clT c (dyX X c) (kpX X c) (thX X c) ++ clQ X (c + 1) d) ++ r) = _; rw [List.append_assoc (clT c (dyX X c) (kpX X c) (thX X c))]
    have E : Em (chL T) T.length l1.length (clT c (dyX X c) (kpX X c) (thX X c)) := by rw [hT']; exact Em.of i1 (s0_cl d (c + 1) (by omega) r hr)
    obtain ⟨D1, e, k3, nr, lo⟩ := g_class E (by omega) (by omega) (by omega) h3 h.1 h.2.1
    have hp : l1.length < T.length := by have := E.1; have := E.2.2.1; omega
    obtain ⟨D', e', h'⟩ := ih (c + 1) fu D1 (l1 ++ clT c (dyX X c) (kpX X c) (thX X c)) (by omega) (by rw [hT', List.append_assoc]) ⟨k3, nr, by rw [kN_e (lo 4 (by omega))]; exact h.2.2.1, by rw [kN_e (lo 5 (by omega))]; exact h.2.2.2.1, by rw [kN_e (lo 6 (by omega))]; exact h.2.2.2.2⟩
    refine ⟨D', ?_, h'⟩
    rw [show fu + (d + 1) = (fu + d) + 1 by omega, lo_step hp e, ← List.length_append, e', List.append_assoc]
    rfl
theorem lo_us {T r : List Int32} (hr : St0 r) : ∀ d u fu D l1, u + d = usX X → T = l1 ++ (usQ X u d ++ r) → Iu X D u → ∃ D', pLo (chL T) T.length (fu + d) D l1.length = pLo (chL T) T.length fu D' (l1 ++ usQ X u d).length ∧ Iu X D' (usX X) := by
  have hb := usX_b X
  have hcl := clX_b X
  intro d
  induction d with
  | zero =>
    intro u fu D l1 hc hT h
    refine ⟨D, ?_, ?_⟩
    · show pLo _ _ fu D l1.length = pLo _ _ fu D (l1 ++ []).length
      rw [List.append_nil]
    · rw [show usX X = u by omega]; exact h
  | succ d ih =>
    intro u fu D l1 hc hT h
    have h1 := coX_b X u
    have h2 := quX_b X u
    obtain ⟨a1, a2, a3, a4, a5, a6, a7⟩ := h
    obtain ⟨i1, i2⟩ := us_i (u := u) (c := coX X u) (q := quX X u) (by omega) (by omega) ⟨by omega, by omega⟩
    have hT' : T = l1 ++ (usT u (coX X u) (quX X u) ++ (usQ X (u + 1) d ++ r)) := by rw [hT]; show l1 ++ ((usT u (coX X u) (quX X u) ++ usQ X (u + 1) d) ++ r) = _; rw [List.append_assoc (usT u (coX X u) (quX X u))]
    have E : Em (chL T) T.length l1.length (usT u (coX X u) (quX X u)) := by rw [hT']; exact Em.of i1 (s0_us d (u + 1) (by omega) r hr)
    obtain ⟨D1, e, k4, ur', ⟨v1, v2⟩, lo⟩ := g_user E (by omega) (by omega) ⟨by omega, by omega⟩ a1 h1 (by omega) a3 a6 a2 a4
    have hp : l1.length < T.length := by have := E.1; have := E.2.2.1; omega
    obtain ⟨D', e', h'⟩ := ih (u + 1) fu D1 (l1 ++ usT u (coX X u) (quX X u)) (by omega) (by rw [hT', List.append_assoc]) ⟨by rw [kN_e (lo 3 (by omega))]; exact a1, fun x hx => nm2_c (a2 x hx) (fun y hy => lo _ (by omega)), k4, ur', fun x hx => by
      by_cases y : x = u
      · rw [y]; exact ⟨v1, v2⟩
      · rw [lo _ (by omega), lo _ (by omega)]; exact a5 x (by omega), by rw [kN_e (lo 5 (by omega))]; exact a6, by rw [kN_e (lo 6 (by omega))]; exact a7⟩
    refine ⟨D', ?_, h'⟩
    rw [show fu + (d + 1) = (fu + d) + 1 by omega, lo_step hp e, ← List.length_append, e', List.append_assoc]
    rfl
theorem lo_ho {T : List Int32} : ∀ d h fu D l1, h + d = hoX X → T = l1 ++ hoQ X h d → Ih X D h → ∃ D', pLo (chL T) T.length (fu + d) D l1.length = pLo (chL T) T.length fu D' T.length ∧ Ih X D' (hoX X) := by
  have hb := hoX_b X
  have hus := usX_b X
  intro d
  induction d with
  | zero =>
    intro h fu D l1 hc hT hh
    refine ⟨D, ?_, ?_⟩
    · have : T = l1 := by rw [hT]; exact List.append_nil _
      rw [this]; rfl
    · rw [show hoX X = h by omega]; exact hh
  | succ d ih =>
    intro h fu D l1 hc hT hh
    have h1 := hdX_b X h
    obtain ⟨a1, a2, a3, a4, a5, a6⟩ := hh
    obtain ⟨i1, i2⟩ := ho_i (h := h) (u := hdX X h) (a := dB X (41 + 4 * h)) (b := dB X (42 + 4 * h)) (by omega) (by omega)
    have hT' : T = l1 ++ (hoT h (hdX X h) (dB X (41 + 4 * h)) (dB X (42 + 4 * h)) ++ hoQ X (h + 1) d) := hT
    have E : Em (chL T) T.length l1.length (hoT h (hdX X h) (dB X (41 + 4 * h)) (dB X (42 + 4 * h))) := by rw [hT']; exact Em.of i1 (s0_ho d (h + 1) (by omega))
    obtain ⟨D1, e, k6, hr, lo⟩ := g_hold E (by omega) (by omega) a2 h1 (by omega) a5 a3 a6
    have hp : l1.length < T.length := by have := E.1; have := E.2.2.1; omega
    obtain ⟨D', e', h'⟩ := ih (h + 1) fu D1 (l1 ++ hoT h (hdX X h) (dB X (41 + 4 * h)) (dB X (42 + 4 * h))) (by omega) (by rw [hT', List.append_assoc]) ⟨by rw [kN_e (lo 3 (by omega) (by omega))]; exact a1, by rw [kN_e (lo 4 (by omega) (by omega))]; exact a2, fun x hx => nm2_c (a3 x hx) (fun y hy => lo _ (by omega) (by omega)), fun x hx => by rw [lo _ (by omega) (by omega), lo _ (by omega) (by omega)]; exact a4 x hx, k6, hr⟩
    refine ⟨D', ?_, h'⟩
    rw [show fu + (d + 1) = (fu + d) + 1 by omega, lo_step hp e, ← List.length_append, e']
theorem te_good (X : XS) : ∃ D, pTe (chL (teX X)) (teX X).length = some (.inr ((teX X).length, D)) ∧ Ih X D (hoX X) := by
  have hcl := clX_b X
  have hus := usX_b X
  have hho := hoX_b X
  have ha := grX_b X
  have hb := inX_b X
  have B := (sp_all (grX X) (by omega) (inX X) (by omega)).resolve_left (by omega)
  unfold spB s0B eoB at B
  rw [Bool.and_eq_true, Bool.and_eq_true, Bool.and_eq_true, Bool.and_eq_true, Bool.and_eq_true, Bool.and_eq_true, Bool.and_eq_true, Bool.and_eq_true, beq_iff_eq, beq_iff_eq, beq_iff_eq] at B
  obtain ⟨b0, b1, b2, b3, b4, b5, b6, b7, b8⟩ := B
  have st3 := s0_ho (X := X) (hoX X) 0 (by omega)
  have st2 := s0_us (X := X) (usX X) 0 (by omega) _ st3
  have st1 := s0_cl (X := X) (clX X) 0 (by omega) _ st2
  have hT : teX X = [] ++ (spT (grX X) (inX X) ++ (clQ X 0 (clX X) ++ (usQ X 0 (usX X) ++ hoQ X 0 (hoX X)))) := by unfold teX; simp only [List.append_assoc, List.nil_append]
  have E : Em (chL (teX X)) (teX X).length 0 (spT (grX X) (inX X)) := by rw [hT]; exact Em.of (l1 := []) b0 st1
  have hT1 : teX X = spT (grX X) (inX X) ++ (clQ X 0 (clX X) ++ (usQ X 0 (usX X) ++ hoQ X 0 (hoX X))) := hT
  have hT2 : teX X = (spT (grX X) (inX X) ++ clQ X 0 (clX X)) ++ (usQ X 0 (usX X) ++ hoQ X 0 (hoX X)) := by rw [hT1]; simp only [List.append_assoc]
  have hT3 : teX X = ((spT (grX X) (inX X) ++ clQ X 0 (clX X)) ++ usQ X 0 (usX X)) ++ hoQ X 0 (hoX X) := by rw [hT2]; simp only [List.append_assoc]
  have hlen : 22 ≤ (spT (grX X) (inX X)).length := by
    obtain ⟨l0, l1, l2, -⟩ := cs_len
    have d1 : 1 ≤ (decL (grX X)).length := by unfold decL; split <;> simp
    have d2 : 1 ≤ (decL (inX X)).length := by unfold decL; split <;> simp
    unfold spT
    simp only [List.length_append, l0, l1, l2]
    omega
  have len : 22 ≤ (teX X).length := by rw [hT1, List.length_append]; omega
  generalize hw : spT (grX X) (inX X) = w at *
  generalize hF : teX X = T at *
  have h0 := E.w0
  have n0 : nbE (chL T) T.length 0 = 0 := by
    have := nb_L E (i := 0) (by omega)
    rw [Nat.zero_add, b1, Nat.zero_add] at this
    exact this
  have i5 := sy_lt b7
  have sp : pSp (chL T) T.length 0 = some (.inr (w.length, upd (upd (fun _ => 0) 0 (nI (grX X))) 1 (nI (inX X)))) := by
    unfold pSp
    rw [show (0 : Nat) = 0 + 0 from rfl, pTx_L E b2, pTx_L E b3, pNu_L E b4 (by omega) (by omega), pTx_L E b5, pNu_L E b6 (by omega) (by omega)]
    unfold pSy
    rw [sy_L E i5, if_pos b7, nx_L E i5, b8, Nat.zero_add, Nat.zero_add]
  have pe : pTe (chL T) T.length = pLo (chL T) T.length T.length (upd (upd (fun _ => 0) 0 (nI (grX X))) 1 (nI (inX X))) w.length := by
    unfold pTe
    rw [n0, sp]
  rw [pe]
  obtain ⟨D0, hD0⟩ : ∃ D0 : PD, D0 = upd (upd (fun _ => 0) 0 (nI (grX X))) 1 (nI (inX X)) := ⟨_, rfl⟩
  rw [← hD0]
  have z : ∀ k, 2 ≤ k → D0 k = 0 := fun k hk => by rw [hD0, upd_n (by omega), upd_n (by omega)]
  have kz : ∀ k, 2 ≤ k → kN D0 k = 0 := fun k hk => by unfold kN; rw [z k hk]; rfl
  obtain ⟨fu, hfu⟩ : ∃ fu, T.length = fu + hoX X + usX X + clX X := ⟨T.length - hoX X - usX X - clX X, by omega⟩
  obtain ⟨D1, e1, h1⟩ := lo_cl (X := X) (T := T) st2 (clX X) 0 (fu + hoX X + usX X) D0 w (by omega) hT1 ⟨kz 3 (by omega), fun x hx => by omega, kz 4 (by omega), kz 5 (by omega), kz 6 (by omega)⟩
  obtain ⟨D2, e2, h2⟩ := lo_us (X := X) (T := T) st3 (usX X) 0 (fu + hoX X) D1 (w ++ clQ X 0 (clX X)) (by omega) hT2 ⟨h1.1, h1.2.1, h1.2.2.1, fun x hx => by omega, fun x hx => by omega, h1.2.2.2.1, h1.2.2.2.2⟩
  obtain ⟨D3, e3, h3⟩ := lo_ho (X := X) (T := T) (hoX X) 0 fu D2 ((w ++ clQ X 0 (clX X)) ++ usQ X 0 (usX X)) (by omega) hT3 ⟨h2.1, h2.2.2.1, h2.2.2.2.1, h2.2.2.2.2.1, h2.2.2.2.2.2.2, fun x hx => by omega⟩
  refine ⟨D3, ?_, h3⟩
  have e0 : pLo (chL T) T.length T.length D0 w.length = pLo (chL T) T.length (fu + hoX X + usX X + clX X) D0 w.length := by
    conv => lhs; arg 3; rw [hfu]
  rw [e0, e1, e2, e3, lo_end]
end Wh
