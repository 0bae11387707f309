/-! load -/
section A2
variable {F : Nat} {xs : Nat → Int32} {L : Nat} {S : St} {n : Nat} {i : Int32}
theorem ok2_end {S2 S9 : St} {q : Int32} {n' : Nat} (hc : f_X10_load F S n 0 = some (q, S2, n')) (hm : f_X11_load F S2 197 = some (q, S9)) (hR : Rel S9 n') : Ok (f_law2 F xs L S n 0 197 210 211 i) := by
  unfold f_law2
  rw [hc, ob_some]
  simp only [lt_eq]
  rw [hm, ob_some]
  simp only [lt_eq, if_true]
  exact ⟨S9, n', rfl, hR⟩
theorem RC.lift {S T : St} {n n' h f : Nat} {Ns Bs : Nat → Nat → Int32} {N B : Nat → Int32} (c : RC S n h f Ns Bs N B) (hn : n ≤ n') (e : ∀ i, (1 ≤ i ∧ i ≤ 19) ∨ (27 ≤ i ∧ i ≤ 43) ∨ (69 ≤ i ∧ i ≤ 195) ∨ (212 ≤ i ∧ i < n) → SameO S T i) (z1 : si T 909 0 = si S 909 0) (z2 : si T 908 0 = si S 908 0) (e1 : ∀ g i, i < 212 → sr T g i = sr S g i) (e2 : ∀ i, i < 212 → ln T i = ln S i) : RC T n' h f Ns Bs N B := by
  have := c.1
  exact ⟨by omega, c.2.1.agr (fun f i _ hi => e1 f i hi) (fun i hi => e2 i hi) (e 69 (by omega)).2.2.2.2.1, c.2.2.1.agr hn (fun i hi => e i (by omega)) z1 z2, c.2.2.2.agr hn (fun i hi => e i (by omega))⟩
theorem e_cutA {T : St} {K : Nat} (l20 : si T 1 20 = nI K) (hK : K ≤ 1200) : ∃ T3, f_X0_cutTo F T 20 0 = some T3 ∧ si T3 1 20 = 0 ∧ (∀ k, ¬ k = 20 → SameO T T3 k) ∧ sr T3 = sr T ∧ ln T3 = ln T := by
  unfold f_X0_cutTo
  rw [if_neg (by decide), l20]
  by_cases z : K = 0
  · rw [z, if_pos (show nI 0 ≤ 0 by decide)]
    exact ⟨T, rfl, by rw [l20, z]; rfl, fun k _ => SameO.rf _ _, rfl, rfl⟩
  · rw [if_neg (nI_nle (by omega) (by omega))]
    exact ⟨_, rfl, by rw [si_ui, if_pos ⟨rfl, rfl⟩], fun k a => SameO.ui _ a, rfl, rfl⟩
def ldG (F : Nat) (C2 : St) (n n11 : Nat) : Option (Int32 × St × Nat) := Option.bind (f_X10_remember F C2 0) fun S28 =>
  Option.bind (sr S28 905 0) fun j31 =>
  Option.bind (sr S28 501 n) fun j32 =>
  Option.bind (f_X8_startWith F S28 j31 j32) fun S34 =>
  Option.bind (sr S34 905 0) fun j37 =>
  Option.bind (sr S34 700 j37) fun j38 =>
  Option.bind (sr S34 606 j38) fun j39 =>
  some (si S34 401 j39, S34, n11)
theorem e_pre2 {C0 C' : St} {a : Int32} {K : Nat} (hS : sr S 900 0 = some 20) (h0n : 0 < n) (i1 : f_X6_init F (nob S n) (n + 1) n 20 = some (C0, n + 20)) (hc : f_X6_parse F C0 n = some (a, C')) (hx : FxF C') (l20 : si C' 1 20 = nI K) (hK : K ≤ 1200) (h20 : ¬ n = 20) :
    ∃ C2, f_X10_load F S n 0 = (if ¬ a = 0 then ldG F C2 n (n + 20) else some (-4, C2, n + 20)) ∧ si C2 1 20 = 0 ∧ si C2 903 0 = si C' 502 n ∧ si C2 904 0 = si C' 503 n ∧ (∀ k, ¬ k = 0 → ¬ k = 20 → SameO C' C2 k) ∧ (∀ g, ¬ g = 903 → ¬ g = 904 → si C2 g 0 = si C' g 0) ∧ sr C2 = sr C' ∧ ln C2 = ln C' := by
  obtain ⟨C1, c1, c2, c3, c4, c5⟩ := e_cutA (F := F) l20 hK
  refine ⟨ui (ui C1 903 0 (si C1 502 n)) 904 0 (si (ui C1 903 0 (si C1 502 n)) 503 n), ?_, ?_, ?_, ?_, fun k a b => ((c3 k b).tr (SameO.ui _ a)).tr (SameO.ui _ a), fun g a b => ?_, ?_, ?_⟩
  · unfold f_X10_load ldG
    simp only [lt_eq]
    rw [sr_nob, if_neg (by omega), hS, ob_some, i1, ob_some]
    simp only []
    rw [hc, ob_some]
    simp only []
    rw [hx.r900_0, ob_some, c1, ob_some]
  · rw [si_ui, if_neg (by omega), si_ui, if_neg (by omega)]; exact c2
  · rw [si_ui, if_neg (by omega), si_ui, if_pos ⟨rfl, rfl⟩, (c3 n h20).1]
  · rw [si_ui, if_pos ⟨rfl, rfl⟩, si_ui, if_neg (by omega), (c3 n h20).1]
  · rw [si_ui, if_neg (by omega), si_ui, if_neg (by omega), (c3 0 (by omega)).1]
  · rw [sr_ui, sr_ui, c4]
  · rw [ln_ui, ln_ui, c5]
theorem ok_2 (hF : 100000 ≤ F) (h : Rel S n) (hi : ∀ k : Nat, k < 6 → vp_in (i + nI k) L) : Ok (f_law2 F xs L S n 0 197 210 211 i) := by
  have hn := h.hn
  have hx := h.fx
  obtain ⟨hh, ff, Ns, Bs, rc, rm, rx⟩ := h.parts
  obtain ⟨K, k1, k2, k3, k4⟩ := h.2.2.2.1
  obtain ⟨C0, i1, i2, i3, i4, i5, i6, i7, i8⟩ := e_parser F S n
  have hx0 : FxF C0 := hx.same (fun i hi => i3 i (by omega))
  have in0 : Inp C0 (ai S 201) K := ⟨k1, ((i3 20 (by omega)).1 1).trans k2, fun j hj => by rw [(i3 21 (by omega)).row]; exact k4 j hj⟩
  have rd : ∀ S2, FxF S2 → si S2 1007 197 = nI K → ai S2 201 = ai S 201 → ∃ M0, f_X11_load F S2 197 = (Option.bind (f_X11_scan F M0 197) fun S73 => sp1 F S73) ∧ ML S2 M0 ∧ FxF M0 ∧ Rd (ai S 201) K n (n + 1) C0 M0 F (f_X6_parse F C0 n) (f_X11_load F S2 197) := fun S2 y1 y2 y3 => by
    obtain ⟨M0, d1, d2, d3, d4, d5, d6, d7, d8, d9⟩ := m_load (F := F) (f := ai S 201) y1 k1 y2 (fun j hj => by rw [y3]; exact ⟨rfl, (k4 j hj).2⟩) (by omega)
    have := s_read (F := F) (n := n) hx0 in0 hn i2 i4 i5 i6 i7 i8 d2 d3 d4 d5 d6 d7 d8 (by omega)
    rw [← d1] at this
    exact ⟨M0, d1, d9, d2, this⟩
  obtain ⟨Md, -, -, -, rdD⟩ := rd S hx k3 rfl
  rcases rdD with ⟨D1, C1, M1, s1, p1, -, g1⟩ | ⟨C1, M1, p1, -, fl1⟩
  rotate_left
  · -- an error
    have fr : ∀ k, k < n → SameO C0 C1 k := fl1.2.1.1
    have so1 : ∀ k, k < n → SameO S C1 k := fun k hk => (i3 k hk).tr (fr k hk)
    have hx1 : FxF C1 := hx.same (fun i hi => so1 i (by omega))
    obtain ⟨C2, l1, l2, l3, l4, l5, l6, l7, l8⟩ := e_pre2 (F := F) (S := S) hx.r900_0 (by omega) i1 p1 hx1 (((so1 20 (by omega)).1 1).trans k2) k1 (by omega)
    rw [if_neg (fun y => y rfl)] at l1
    have so2 : ∀ k, k < n → ¬ k = 0 → ¬ k = 20 → SameO S C2 k := fun k a b c => (so1 k a).tr (l5 k b c)
    have hx2 : FxF C2 := hx1.agr (fun f i _ _ => by rw [l7]) (fun i _ => by rw [l8]) (l5 69 (by omega) (by omega)).2.2.2.2.1
    obtain ⟨M0, -, ml0, hxM, rdM⟩ := rd C2 hx2 (((so2 197 (by omega) (by omega) (by omega)).1 1007).trans k3) (so2 201 (by omega) (by omega) (by omega)).row
    rcases rdM with ⟨D2, C3, M2, s2, q1, q2, g2⟩ | ⟨C3, M2, q1, q2, fl2⟩
    · rw [p1] at q1
      have := congrArg Prod.fst (Option.some.inj q1)
      exact absurd this (show ¬ (0 : Int32) = 1 by decide)
    obtain rfl : C1 = C3 := by
      rw [p1] at q1
      exact congrArg Prod.snd (Option.some.inj q1)
    obtain ⟨⟨c, t, s, f1, f2, f3, f4, f5, f6⟩, ⟨-, mf⟩, -⟩ := fl2
    have ml := (ml0.e mf).wr (some 198)
    refine ok2_end l1 q2 (Rel.of (h := hh) (f := ff) (Ns := Ns) (Bs := Bs) (N := ai S 198) (B := ai S 200) (rc.lift (by omega) (fun k hk => ?_) ?_ ?_ (fun g k hk => ?_) (fun k hk => ?_)) ((rm.same (fun k hk => so2 k (by omega) (by omega) (by omega))).net (fun k _ => ?_) ?_ ?_ ?_ ?_ ?_ ?_ ?_) ⟨⟨?_, ?_⟩, ?_, ?_⟩)
    · refine (so2 k (by omega) (by omega) (by omega)).tr ⟨fun g => ml.2.1 g k (by omega), fun g => ml.1 g k (by omega), ml.2.2.2.1 k (by omega), by rw [ml.2.2.2.2.1], by rw [ml.2.2.2.2.2.1], by rw [ml.2.2.2.2.2.2.1]⟩
    · rw [ml.2.1 _ _ (by omega), l6 _ (by omega) (by omega)]; exact (so1 0 (by omega)).1 _
    · rw [ml.2.1 _ _ (by omega), l6 _ (by omega) (by omega)]; exact (so1 0 (by omega)).1 _
    · by_cases y : g = 1004 ∧ k = 197
      · rw [y.1, y.2, sr_ur, if_pos ⟨rfl, rfl⟩]
        exact h.mi.2.1.symm
      · rw [ml.1 g k y, l7]; exact (so1 k (by omega)).2.1 g
    · rw [ml.2.2.2.2.2.2.1, l8]; exact (so1 k (by omega)).2.2.2.2.2
    · rw [ml.2.2.2.1 198 (by omega), (so2 198 (by omega) (by omega) (by omega)).row]
    · rw [ml.2.2.2.1 200 (by omega), (so2 200 (by omega) (by omega) (by omega)).row]
      exact EqB.rf _ _
    · exact ml.2.2.2.1 207 (by omega)
    · exact ml.2.2.2.1 208 (by omega)
    · exact ml.2.2.1 _ (by omega)
    · exact ml.2.2.1 _ (by omega)
    · exact ml.2.2.1 _ (by omega)
    · rw [sr_ur, if_pos ⟨rfl, rfl⟩, l7, (so1 197 (by omega)).2.1]
      exact h.mi.2.1.symm
    · rw [ml.2.1 903 0 (by omega), l3, f2, si_ur, f5]
    · rw [ml.2.1 904 0 (by omega), l4, f3, si_ur, f6]
    · exact ⟨0, by omega, by rw [ml.2.1 1 20 (by omega)]; exact l2, ml.2.2.2.2.2.2.2, fun j hj => by omega⟩
    · obtain ⟨k', o1, o2, o3, o4⟩ := rx.2.2
      refine ⟨k', o1, ?_, ?_, ?_⟩
      · rw [ml.2.1 1 22 (by omega), (so2 22 (by omega) (by omega) (by omega)).1]; exact o2
      · rw [ml.2.2.1 1029 (by omega), (so2 197 (by omega) (by omega) (by omega)).1]; exact o3
      · rw [ml.2.2.2.1 23 (by omega), ml.2.2.2.1 209 (by omega), (so2 23 (by omega) (by omega) (by omega)).row, (so2 209 (by omega) (by omega) (by omega)).row]; exact o4
  -- the text is good
  have fr : ∀ k, k < n → SameO C0 C1 k := g1.2.2.2.2.2.2.1
  have so1 : ∀ k, k < n → SameO S C1 k := fun k hk => (i3 k hk).tr (fr k hk)
  have hx1 : FxF C1 := hx.same (fun i hi => so1 i (by omega))
  obtain ⟨C2, l1, l2, l3, l4, l5, l6, l7, l8⟩ := e_pre2 (F := F) (S := S) hx.r900_0 (by omega) i1 p1 hx1 (((so1 20 (by omega)).1 1).trans k2) k1 (by omega)
  rw [if_pos (show ¬ (1 : Int32) = 0 by decide)] at l1
  have so2 : ∀ k, k < n → ¬ k = 0 → ¬ k = 20 → SameO S C2 k := fun k a b c => (so1 k a).tr (l5 k b c)
  have rc2 : RC C2 (n + 20) hh ff Ns Bs (ai S 198) (ai S 200) := rc.lift (by omega) (fun k hk => so2 k (by omega) (by omega) (by omega)) (by rw [l6 _ (by omega) (by omega)]; exact (so1 0 (by omega)).1 _) (by rw [l6 _ (by omega) (by omega)]; exact (so1 0 (by omega)).1 _) (fun g k hk => by rw [l7]; exact (so1 k (by omega)).2.1 g) (fun k hk => by rw [l8]; exact (so1 k (by omega)).2.2.2.2.2)
  obtain ⟨C3, t1, t2, -, -, -, -, -⟩ := rc2.rem (F := F) (by omega)
  obtain ⟨C3', v1, -, v3, v4, v5, -, -, -, v9⟩ := e_remember (F := F) rc2.2.1 rc2.2.2.1 rc2.2.2.2 (by omega)
  obtain rfl : C3' = C3 := by rw [t1] at v1; exact (Option.some.inj v1).symm
  have tl := tN_lt hh ff
  have so3 : ∀ k, ¬ k = 0 → ¬ k = 20 → ¬ (70 ≤ k ∧ k ≤ 195) → SameO C1 C3' k := fun k a b c => (l5 k a b).tr (v3 k a (by omega))
  have hx3 := t2.2.1
  have R1 := g1.cr
  have cn1 := g1.cn
  have b6 := cn1.2.2.2.2
  have R3 : CR C3' (n + 1) D1 := R1.agr (fun k a b => so3 k (by omega) (by omega) (by omega))
  obtain ⟨C4, w1, w2, w3, w4, w5, w6, w7, w8, w9, w10⟩ := e_start (F := F) (T := C3') (r := n + 1) (k := kN D1 6) hx3.sp27 R3.1 (by omega) (R3.2.1.2.2.2.2.2.trans cn1.2.2.2.1) b6
  have hx4 : FxF C4 := hx3.agr (fun g k a _ => w8 g k (fun z => a z.1)) (fun k _ => by rw [w9]) (by rw [w10])
  have so4 : ∀ k, ¬ k = 0 → ¬ k = 20 → ¬ (70 ≤ k ∧ k ≤ 195) → ¬ (27 ≤ k ∧ k ≤ 40) → SameO C1 C4 k := fun k a b c d => (so3 k a b c).tr (w7 k d)
  have so5 : ∀ k, k < n → ¬ k = 0 → ¬ k = 20 → ¬ (70 ≤ k ∧ k ≤ 195) → ¬ (27 ≤ k ∧ k ≤ 40) → SameO S C4 k := fun k a b c d e => (so1 k a).tr (so4 k b c d e)
  have R4 : CR C4 (n + 1) D1 := R1.agr (fun k a b => so4 k (by omega) (by omega) (by omega) (by omega))
  have hc : f_X10_load F S n 0 = some (si C4 401 (n + 1 + 6), C4, n + 20) := by
    rw [l1]
    unfold ldG
    rw [t1, ob_some, hx3.r905_0, ob_some, (so3 n (by omega) (by omega) (by omega)).2.1, g1.p501, ob_some, w1, ob_some, hx4.r905_0, ob_some, w2, ob_some, R4.1.r606_0, ob_some]
  obtain ⟨M0, -, ml0, hxM, rdM⟩ := rd C4 hx4 (((so5 197 (by omega) (by omega) (by omega) (by omega) (by omega)).1 1007).trans k3) (so5 201 (by omega) (by omega) (by omega) (by omega) (by omega)).row
  rcases rdM with ⟨D2, C5, M2, s2, q1, q2, g2⟩ | ⟨C5, M2, q1, q2, fl2⟩
  rotate_left
  · rw [p1] at q1
    have := congrArg Prod.fst (Option.some.inj q1)
    exact absurd this (show ¬ (1 : Int32) = 0 by decide)
  obtain rfl : C1 = C5 := by
    rw [p1] at q1
    exact congrArg Prod.snd (Option.some.inj q1)
  have ml := (ml0.e g2.2.2.2.2.2.2.2).wr (some 198)
  have e199 : ai M2 199 = D2 := g2.1
  obtain ⟨M5, hM5⟩ : ∃ M5, M5 = ur M2 1004 197 (some 198) := ⟨_, rfl⟩
  rw [← hM5] at ml
  have hxM5 : FxF M5 := by rw [hM5]; exact g2.gd.1.r4 _
  have sr5 : sr M5 1004 197 = some 198 := by rw [hM5, sr_ur, if_pos ⟨rfl, rfl⟩]
  have rm4 : RM C4 hh ff Ns Bs (ai S 198) (ai S 200) := rm.same (fun k hk => so5 k (by omega) (by omega) (by omega) (by omega) (by omega))
  have rm5 : RM M5 hh ff Ns Bs (ai S 198) (ai S 200) := rm4.net (fun k hk => by rw [ml.2.2.2.1 198 (by omega)]; exact rm4.2.1 k hk) (by rw [ml.2.2.2.1 200 (by omega)]; exact rm4.2.2.1) (ml.2.2.2.1 207 (by omega)) (ml.2.2.2.1 208 (by omega)) (ml.2.2.1 _ (by omega)) (ml.2.2.1 _ (by omega)) (ml.2.2.1 _ (by omega)) (sr5.trans rm4.2.2.2.2.symm)
  obtain ⟨M6, u1, u2, u3, u4, u5, u6⟩ := rm5.rem (F := F) hxM5 rc.old h.w hF
  obtain ⟨M6', x1, -, x3⟩ := m_remember (F := F) hxM5 rm5.1 rc.old.2.2 rc.old.1 rc.old.2.1 h.w rm5.2.1 rm5.2.2.1 hF
  obtain rfl : M6' = M6 := by rw [u1] at x1; exact (Option.some.inj x1).symm
  have hxM6 := x3.fx hxM5
  obtain ⟨M7, y1, y2, y3, -⟩ := m_take8 (F := F) 6391 0 F M6' (by omega) (by omega) hxM6
  have y1' : f_X11_load_L166 F F M6' 197 0 = some (ai M7 198 4, M7) := y1
  have d7 : ∀ x, x < 6391 → ai M7 198 x = D2 x := fun x hx => by
    rw [y3 x (by omega) hx, x3.2.2.1 199 (by unfold pA; omega), hM5, ← e199]
    rfl
  have hm : f_X11_load F C4 197 = some (ai M7 198 4, M7) := by
    rw [q2]
    unfold f_X11_load_L142
    rw [g2.gd.1.r1001_197, ob_some]
    simp only [lt_eq]
    rw [← hM5]
    have gd : f_X11_good F M5 197 = some (1, M5) := by
      unfold f_X11_good
      rw [if_neg (fun y => y (by rw [hM5]; exact g2.gd.2.2.2.1))]
    rw [gd, ob_some]
    simp only [lt_eq]
    rw [if_pos (show ¬ (1 : Int32) = 0 by decide), u1, ob_some, y1']
  -- the last state against the class's
  have sr7 : ∀ g k, sr M7 g k = sr C4 g k := fun g k => by
    rw [y2.1, x3.1]
    by_cases y : g = 1004 ∧ k = 197
    · rw [y.1, y.2, sr5, rm4.2.2.2.2]
    · exact ml.1 g k y
  have si7 : ∀ g k, ¬ k = 197 → si M7 g k = si C4 g k := fun g k a => by
    rw [y2.2.1 g k (fun z => a z.1), x3.2.1 g k (fun z => a z.1)]
    exact ml.2.1 g k a
  have ai7 : ∀ k, ¬ k = 198 → ¬ k = 199 → ¬ k = 207 → ¬ k = 208 → ai M7 k = ai C4 k := fun k a b c d => by
    rw [y2.2.2.1 k a, x3.2.2.1 k (by unfold pA; omega)]
    exact ml.2.2.2.1 k b
  have al7 : al M7 = al C4 := by rw [y2.2.2.2.1, x3.2.2.2.1]; exact ml.2.2.2.2.1
  have ar7 : ar M7 = ar C4 := by rw [y2.2.2.2.2.1, x3.2.2.2.2.1]; exact ml.2.2.2.2.2.1
  have ln7 : ln M7 = ln C4 := by rw [y2.2.2.2.2.2, x3.2.2.2.2.2]; exact ml.2.2.2.2.2.2.1
  have s197 : ∀ g, ¬ g = 1026 → ¬ g = 1027 → si M7 g 197 = si M5 g 197 := fun g a b => by
    rw [y2.2.1 g 197 (fun z => z.2), x3.2.1 g 197 (fun z => by rcases z.2 with y | y <;> omega)]
  have so7 : ∀ k, ¬ (197 ≤ k ∧ k ≤ 199) → ¬ k = 207 → ¬ k = 208 → SameO C4 M7 k := fun k a b c => ⟨fun g => si7 g k (by omega), fun g => sr7 g k, ai7 k (by omega) (by omega) b c, by rw [al7], by rw [ar7], by rw [ln7]⟩
  have R2 := g2.cr
  have cn2 := g2.cn
  have R2' : CR C4 (n + 1) D2 := R2.agr (fun k a b => so4 k (by omega) (by omega) (by omega) (by omega))
  have k6 : kN D1 6 = kN D2 6 := by
    unfold kN
    rw [← R1.2.1.2.2.2.2.2, R2.2.1.2.2.2.2.2]
  obtain ⟨z1, z2, z3, z4, z5⟩ := g2.2.1.2.2.2.2.2.2.2.2.2.1
  rw [e199] at z1 z2 z3 z4 z5
  have b4 := cn2.2.1.2
  have cl4 : Cl C4 (n + 20) 27 D2 (ai S 200) := Cl_fresh (r := n + 1) w2 ⟨by omega, by omega⟩ R2' cn2 ⟨z1, z2, z3, z4⟩ g2.2.2.1 (by rw [← k6]; exact w3) (fun u hu => by rw [w4 u (by omega), (so3 (n + 1 + 9) (by omega) (by omega) (by omega)).row]; exact z5 u hu) w5 w6
  have rc4 : RC C4 (n + 20) (hN hh) (fN hh ff) (setF Ns (tN hh ff) (ai S 198)) (setF Bs (tN hh ff) (ai S 200)) D2 (ai S 200) := ⟨by omega, hx4, t2.2.2.1.agr (Nat.le_refl _) (fun k hk => w7 k (by omega)) ((w7 0 (by omega)).1 _) ((w7 0 (by omega)).1 _), cl4⟩
  have k8 : kN D2 8 = 0 := by unfold kN; rw [g2.2.2.1.2.1.2.1 8 (by omega) (by omega)]; rfl
  have e4 : si C4 401 (n + 1 + 6) = ai M7 198 4 := by
    rw [d7 4 (by omega)]
    exact R2'.2.1.2.2.2.1
  rw [e4] at hc
  have z0 : ∀ g, ¬ g = 908 → ¬ g = 909 → si C4 g 0 = si C2 g 0 := fun g a b => by
    rw [(w7 0 (by omega)).1]
    exact v4 g a b
  refine ok2_end hc hm (Rel.of (rc4.lift (Nat.le_refl _) (fun k hk => ?_) (si7 _ _ (by omega)) (si7 _ _ (by omega)) (fun g k _ => sr7 g k) (fun k _ => by rw [ln7])) (u2.net (N := ai S 198) (B := ai S 200) d7 (fun q j a b => by rw [k8] at a; omega) (y2.2.2.1 207 (by unfold is8; omega)) (y2.2.2.1 208 (by unfold is8; omega)) (y2.2.1 _ _ (fun z => z.2)) (y2.2.1 _ _ (fun z => z.2)) (y2.2.1 _ _ (fun z => z.2)) (y2.1 _ _)) ⟨⟨?_, ?_⟩, ?_, ?_⟩)
  · exact so7 k (by omega) (by omega) (by omega)
  · rw [si7 903 0 (by omega), z0 903 (by omega) (by omega), l3, s197 1013 (by omega) (by omega), hM5, si_ur, g2.gd.2.2.2.1]
    exact g2.2.2.2.2.1
  · rw [si7 904 0 (by omega), z0 904 (by omega) (by omega), l4, s197 1014 (by omega) (by omega), hM5, si_ur, g2.2.2.2.1]
    exact g2.2.2.2.2.2.1
  · refine ⟨0, by omega, ?_, ?_, fun j hj => by omega⟩
    · rw [si7 1 20 (by omega), (w7 20 (by omega)).1, (v3 20 (by omega) (by omega)).1]; exact l2
    · rw [s197 1007 (by omega) (by omega)]; exact ml.2.2.2.2.2.2.2
  · obtain ⟨k', o1, o2, o3, o4⟩ := rx.2.2
    refine ⟨k', o1, ?_, ?_, ?_⟩
    · rw [si7 1 22 (by omega), (so5 22 (by omega) (by omega) (by omega) (by omega) (by omega)).1]; exact o2
    · rw [s197 1029 (by omega) (by omega), ml.2.2.1 1029 (by omega), (so5 197 (by omega) (by omega) (by omega) (by omega) (by omega)).1]; exact o3
    · rw [ai7 23 (by omega) (by omega) (by omega) (by omega), ai7 209 (by omega) (by omega) (by omega) (by omega), (so5 23 (by omega) (by omega) (by omega) (by omega) (by omega)).row, (so5 209 (by omega) (by omega) (by omega) (by omega) (by omega)).row]; exact o4
end A2
