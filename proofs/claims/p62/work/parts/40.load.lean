/-! the law's load -/
theorem decL_ok {v : Nat} (h : v < 100) : ascL (decL v) := fun c hc => decL_asc v h c hc
theorem ltr_ok {c : Nat} (h : 97 + c ≤ 127) : ascL (ltr c) := fun x hx => by
  unfold ltr at hx
  rw [List.mem_singleton] at hx
  rw [hx]
  exact (asc_tab (97 + c) h).2.2.2.1
theorem asc_ap {a b : List Int32} (ha : ascL a) (hb : ascL b) : ascL (a ++ b) := fun c hc => (List.mem_append.mp hc).elim (ha c) (hb c)
theorem asc_nil : ascL [] := fun c hc => by cases hc
theorem clT_ok {c d k t : Nat} (hc : c < 10) (hd : d < 100) (hk : k < 100) (ht : t < 10) : ascL (clT c d k t) := by
  unfold clT
  refine asc_ap (asc_ap (asc_ap (asc_ap (asc_ap (asc_ap (cs_asc (by omega)) (ltr_ok (by omega))) (cs_asc (by omega))) ?_) ?_) ?_) (cs_asc (by omega))
  · split
    · exact cs_asc (by omega)
    · exact decL_ok hd
  · split
    · exact asc_nil
    · exact asc_ap (cs_asc (by omega)) (decL_ok hk)
  · split
    · exact asc_nil
    · exact asc_ap (cs_asc (by omega)) (ltr_ok (by omega))
theorem usT_ok {u c q : Nat} (hu : u < 10) (hc : c < 10) (hq : q < 100) : ascL (usT u c q) := by
  unfold usT
  exact asc_ap (asc_ap (asc_ap (asc_ap (asc_ap (asc_ap (cs_asc (by omega)) (ltr_ok (by omega))) (cs_asc (by omega))) (ltr_ok (by omega))) (cs_asc (by omega))) (decL_ok hq)) (cs_asc (by omega))
theorem hoT_ok {h u : Nat} {a b : Bool} (hh : h < 10) (hu : u < 10) : ascL (hoT h u a b) := by
  unfold hoT
  refine asc_ap (asc_ap (asc_ap (asc_ap (asc_ap (asc_ap (cs_asc (by omega)) (ltr_ok (by omega))) (cs_asc (by omega))) (ltr_ok (by omega))) ?_) ?_) (cs_asc (by omega))
  · split
    · exact cs_asc (by omega)
    · exact asc_nil
  · split
    · exact cs_asc (by omega)
    · exact asc_nil
theorem clQ_ok (X : XS) : ∀ d c, c + d = clX X → ascL (clQ X c d) ∧ (clQ X c d).length ≤ 40 * d := by
  have hb := clX_b X
  intro d
  induction d with
  | zero => intro c _; exact ⟨asc_nil, Nat.le_refl _⟩
  | succ d ih =>
    intro c hc
    obtain ⟨i1, i2⟩ := ih (c + 1) (by omega)
    have h1 := dyX_b X c
    have h2 := kpX_b X c
    have h3 := thX_b X c
    have := clT_len c (dyX X c) (kpX X c) (thX X c)
    refine ⟨asc_ap (clT_ok (by omega) (by omega) (by omega) (by omega)) i1, ?_⟩
    show List.length (_ ++ _ : List Int32) ≤ _
    rw [List.length_append]; omega
theorem usQ_ok (X : XS) : ∀ d u, u + d = usX X → ascL (usQ X u d) ∧ (usQ X u d).length ≤ 30 * d := by
  have hb := usX_b X
  have hcl := clX_b X
  intro d
  induction d with
  | zero => intro c _; exact ⟨asc_nil, Nat.le_refl _⟩
  | succ d ih =>
    intro u hu
    obtain ⟨i1, i2⟩ := ih (u + 1) (by omega)
    have h1 := coX_b X u
    have h2 := quX_b X u
    have := usT_len u (coX X u) (quX X u)
    refine ⟨asc_ap (usT_ok (by omega) (by omega) (by omega)) i1, ?_⟩
    show List.length (_ ++ _ : List Int32) ≤ _
    rw [List.length_append]; omega
theorem hoQ_ok (X : XS) : ∀ d h, h + d = hoX X → ascL (hoQ X h d) ∧ (hoQ X h d).length ≤ 40 * d := by
  have hb := hoX_b X
  have hus := usX_b X
  intro d
  induction d with
  | zero => intro c _; exact ⟨asc_nil, Nat.le_refl _⟩
  | succ d ih =>
    intro h hh
    obtain ⟨i1, i2⟩ := ih (h + 1) (by omega)
    have h1 := hdX_b X h
    have := hoT_len h (hdX X h) (dB X (41 + 4 * h)) (dB X (42 + 4 * h))
    refine ⟨asc_ap (hoT_ok (by omega) (by omega)) i1, ?_⟩
    show List.length (_ ++ _ : List Int32) ≤ _
    rw [List.length_append]; omega
theorem teX_ok (X : XS) : ascL (teX X) ∧ (teX X).length ≤ 400 := by
  have hcl := clX_b X
  have hus := usX_b X
  have hho := hoX_b X
  have ha := grX_b X
  have hb := inX_b X
  obtain ⟨a1, a2⟩ := clQ_ok X (clX X) 0 (by omega)
  obtain ⟨b1, b2⟩ := usQ_ok X (usX X) 0 (by omega)
  obtain ⟨c1, c2⟩ := hoQ_ok X (hoX X) 0 (by omega)
  obtain ⟨l0, l1, l2, -⟩ := cs_len
  have d1 := decL_2 (v := grX X)
  have d2 := decL_2 (v := inX X)
  unfold teX spT
  refine ⟨asc_ap (asc_ap (asc_ap (asc_ap (asc_ap (asc_ap (asc_ap (cs_asc (by omega)) (decL_ok (by omega))) (cs_asc (by omega))) (decL_ok (by omega))) (cs_asc (by omega))) a1) b1) c1, ?_⟩
  simp only [List.length_append, l0, l1, l2]
  omega
section Ll
variable {F : Nat} {S : St} {n h f : Nat} {Ns Bs : Nat → Nat → Int32} {N B : Nat → Int32} {X : XS}
theorem a_errC (S : St) : f_X10_errorCode F S 0 = some (si S 903 0, S) := rfl
theorem a_errP (S : St) : f_X10_errorPosition F S 0 = some (si S 904 0, S) := rfl
theorem l_load (hX : X.2 ≤ 260) (hF : 100000 ≤ F) (c : RC S n h f Ns Bs N B) (h0 : si S 1 20 = 0) : ∃ T n' h' f' Ns' Bs' D, f_L_load F S n 0 X = some (1, T, n') ∧ n ≤ n' ∧ RC T n' h' f' Ns' Bs' D B ∧ Ih X D (hoX X) ∧ Zd D ∧ si T 1 20 = 0 := by
  have hn := c.1
  obtain ⟨ok1, ok2⟩ := teX_ok X
  obtain ⟨T1, n1, y, e1, m1, t1, f1⟩ := e_text (F := F) (S := S) (n := n) hX (by omega) hn
  have c1 := c.grow m1 f1
  obtain ⟨T2, e2, f2, i2⟩ := e_feed (F := F) (m := n1) (x := y) ok1 ok2 (by omega) c1.2.1 t1 (by rw [(f1 20 (by omega)).1]; exact h0)
  obtain ⟨D, p1, p2⟩ := te_good X
  have ld := e_load (F := F) (c1.fed f2) i2 hF
  rw [p1] at ld
  obtain ⟨T3, e3, c3, ⟨g1, g2, g3⟩, -, z⟩ := ld
  obtain ⟨w3, -, -, w6, -⟩ := c3.2.2.2.1.2.1
  have ct := a_count (F := F) c3
  refine ⟨T3, _, _, _, _, _, D, ?_, by omega, c3, p2, z, g3⟩
  unfold f_L_load
  rw [e1, ob_some]
  simp only [lt_eq]
  rw [e2, ob_some, e3, ob_some]
  simp only []
  rw [e_usersL hX, ob_some]
  simp only []
  rw [p2.2.1, if_neg (fun y => y rfl), a_errC, ob_some]
  simp only []
  rw [g1, if_neg (fun y => y rfl), a_errP, ob_some]
  simp only []
  rw [g2, if_neg (fun y => y rfl), ct.1, ob_some]
  show Option.bind (f_L_classes F T3 X) _ = _
  rw [e_classes hX, ob_some]
  simp only []
  rw [w3.1, p2.1, if_neg (fun y => y rfl), ct.2, ob_some]
  show Option.bind (f_L_holds F T3 X) _ = _
  rw [e_holds hX, ob_some]
  simp only []
  rw [w6.1, p2.2.2.2.2.1, if_neg (fun y => y rfl), a_day c3, ob_some]
  simp only []
  rw [z.2.1.1, if_neg (fun y => y rfl)]
end Ll
