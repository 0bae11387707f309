/-! looking ahead: the class -/
section La
variable {F : Nat} {S T : St} {n : Nat} {N B : Nat → Int32}
theorem nA48 {i : Nat} (h : i ∉ wkA) : ¬ (48 ≤ i ∧ i ≤ 68) := by
  intro z
  apply h
  simp only [wkA, List.mem_cons, List.not_mem_nil, or_false]
  omega
theorem eqv48 (h : ∀ i, ¬ (48 ≤ i ∧ i ≤ 68) → SameO S T i) (r : ∀ f i, ¬ (f = 700 ∧ i = 48) → sr T f i = sr S f i) (l : ln T = ln S) : Eqv S T :=
  ⟨r, fun f i a => (h i (fun z => a (Or.inr z))).1 f, fun i a => (h i (nA48 a)).2.2.1, fun i a => (h i (nA48 a)).2.2.2.1, fun i a => (h i (nA48 a)).2.2.2.2.1, l⟩
theorem BdF.eqv (f : BdF S T 48) : Eqv S T := eqv48 (fun i a => f.1 i (by omega)) (fun g i _ => f.2.1 g i) f.2.2
theorem CpR.eqv (c : CpR S T 27 48) : Eqv S T := eqv48 (fun i a => c.1 i (by omega)) c.2.1 c.2.2.1
theorem e_lookAhead (h : Rel S n) (hF : 1000 ≤ F) : ∃ T, f_X10_lookAhead F S 0 = some T ∧ Cl T n 48 (ai S 198) (ai S 200) ∧ SpF T 48 ∧ Pln T 48 (ai S 198) (kN (ai S 198) 2) ∧ Eqv S T ∧ FxF T := by
  have hx := h.fx
  obtain ⟨r, g2, -, -⟩ := h.c0.ru
  obtain ⟨T1, t1, t2⟩ := e_copyFrom (F := F) hx.sp27 hx.sp48 (by omega) g2 hF
  have g1 := h.cl.copy t2 (by omega)
  have hx1 := hx.eqv t2.eqv
  obtain ⟨T2, p1, p2, p3⟩ := e_plan (F := F) g1 (by omega) hx1.sp48 hF
  have e := t2.eqv.tr p2.bd.eqv
  have hx2 := hx.eqv e
  refine ⟨T2, ?_, g1.soft (by omega) p2, hx2.sp48, p3, e, hx2⟩
  unfold f_X10_lookAhead
  rw [hx.r906_0, ob_some, hx.r905_0, ob_some, t1, ob_some, hx1.r906_0, ob_some, p1, ob_some]
/-- no day to come changes anything but the day -/
def restP (N : Nat → Int32) (d : Nat) : Prop := (∀ D, d < D → D < bigD → ∀ m u, m < kN N 7 → u < kN N 4 → ¬ dueP N m u D) ∧ ∀ q, q < kN N 8 → isN N q = 1 → deN N q = -1
theorem e_isAtRest {d : Nat} (g : Cl T n 48 N B) (hs : SpF T 48) (P : Pln T 48 N d) : ∃ r : Int32, f_X8_isAtRest F T 48 = some (r, T) ∧ (r = 0 ∨ (r = 1 ∧ restP N d)) := by
  obtain ⟨w0, q1, q2, q3⟩ := P
  have big : bigD < 2 ^ 31 := by unfold bigD; omega
  have c8 := g.c0.cp.1.2.2
  have cb := cntP_le (fun q => isN N q = 1 ∧ ¬ deN N q = -1) (kN N 8)
  have b8 := g.c0.wb.n8.2
  unfold f_X8_isAtRest
  rw [q1]
  by_cases z : w0 = bigD
  · rw [z, if_neg (fun y => y rfl), hs.r710_0, ob_some, c8]
    by_cases z2 : cntP (fun q => isN N q = 1 ∧ ¬ deN N q = -1) (kN N 8) = 0
    · rw [z2, if_neg (fun y => y rfl)]
      refine ⟨1, rfl, Or.inr ⟨rfl, fun D h1 h2 m u hm hu y => ?_, fun q hq hi => ?_⟩⟩
      · obtain ⟨v, -, -, v3, v4⟩ := q3 m u hm hu
        have := (v4 D h1 h2).mpr y
        omega
      · exact Classical.byContradiction (fun y => (cntP_z.mp z2) q hq ⟨hi, y⟩)
    · rw [if_pos (show ¬ nI (cntP (fun q => isN N q = 1 ∧ ¬ deN N q = -1) (kN N 8)) = 0 from fun y => z2 ((nI_eq (b := 0) (by omega) (by omega)).mp y))]
      exact ⟨0, rfl, Or.inl rfl⟩
  · rw [if_pos (show ¬ nI w0 = 1000000000 from fun y => z ((nI_eq (b := bigD) (by omega) (by omega)).mp y))]
    exact ⟨0, rfl, Or.inl rfl⟩
theorem restP.cong {M : Nat → Int32} {d : Nat} (r : restP N d) (h : EqC N M) (w : WB N B) : restP M d := by
  have b8 := w.n8.2
  refine ⟨fun D h1 h2 m u hm hu y => ?_, fun q hq hi => ?_⟩
  · rw [h.kn (by omega) (by omega)] at hm hu
    exact r.1 D h1 h2 m u hm hu ((due_cg h w hm hu).mp y)
  · rw [h.kn (by omega) (by omega)] at hq
    rw [h.is (by omega)] at hi
    rw [h.de (by omega)]
    exact r.2 q hq hi
theorem restP.step {L : (Nat → Int32) → Int32 → Int32 → Nat → Int32} (hL : isLg L) (r : restP N (kN N 2)) (w : WB N B) (hd : kN N 2 < 22000) : EqX (fun k => k = 2) N (dyN L B N).1 ∧ restP (dyN L B N).1 (kN N 2 + 1) := by
  have b2 := w.n2.2
  have b4 := w.n4.2
  have b7 := w.n7.2
  have b8 := w.n8.2
  have k7 : kN (dayN N) 7 = kN N 7 := dayN_k (by omega)
  have k8 : kN (dayN N) 8 = kN N 8 := dayN_k (by omega)
  have k4 : kN (dayN N) 4 = kN N 4 := dayN_k (by omega)
  have big2 : kN N 2 + 1 < bigD := by unfold bigD; omega
  have hE : EqX (fun k => k = 2) N (dayN N) := fun k _ _ z => dayN_n z
  have none : lvN L B (dayN N) (kN N 2 + 1) (kN N 7) = dayN N := by
    rw [← k7]
    exact lvN_none (fun m u hm hu y => r.1 (kN N 2 + 1) (by omega) big2 m u (by omega) (by omega) ((dueP_c hE (fun k z => Or.inl z) w (by omega) (by omega)).mp y)) _ (Nat.le_refl _)
  have rn : ∀ x, x ≤ kN N 8 → rndN L x (dayN N) = (dayN N, 0) := by
    intro x
    induction x with
    | zero => intro _; rfl
    | succ x ih =>
      intro hx
      rw [rndN_s, ih (by omega), pif_f]
      intro y
      have e1 : isN (dayN N) x = isN N x := dayN_n (by omega)
      have e2 : deN (dayN N) x = deN N x := dayN_n (by omega)
      obtain ⟨y1, y2, -⟩ := y
      rw [e1] at y1
      rw [e2] at y2
      exact y2 (r.2 x (by omega) y1)
  have E : EqX (fun k => k = 2) N (dyN L B N).1 := by
    intro k h1 h9 h2
    unfold dyN
    rw [none]
    unfold rdN
    by_cases z : ¬ (dayN N 2 - dayN N 2 / dayN N 1 * dayN N 1) = 0
    · rw [if_pos z]
      exact ((hL _ _ _).1 k h1 h9).trans (dayN_n h2)
    · rw [if_neg z, k8, rn _ (Nat.le_refl _)]
      exact (((hL _ _ _).1 k h1 h9).trans ((hL _ _ _).1 k h1 h9)).trans (dayN_n h2)
  refine ⟨E, fun D h1 h2 m u hm hu y => ?_, fun q hq hi => ?_⟩
  · rw [E.kn (by omega) (by omega) (by omega)] at hm hu
    exact r.1 D (by omega) h2 m u hm hu ((dueP_c E (fun k z => Or.inl z) w hm hu).mp y)
  · rw [E.kn (by omega) (by omega) (by omega)] at hq
    rw [E.is (fun k z => by omega) (by omega)] at hi
    rw [E.de (fun k z => by omega) (by omega)]
    exact r.2 q hq hi
end La
/-! the days to come, for the class and for the model -/
noncomputable def mN (B N : Nat → Int32) (i : Nat) : Nat → Int32 := (dysN lg0 B N i).1
noncomputable def cN (B N : Nat → Int32) (i : Nat) : Nat → Int32 := (dysN lgN B N i).1
theorem mN_s {B N : Nat → Int32} {i : Nat} : mN B N (i + 1) = (dyN lg0 B (mN B N i)).1 := by unfold mN; rw [dysN_s]
theorem cN_s {B N : Nat → Int32} {i : Nat} : cN B N (i + 1) = (dyN lgN B (cN B N i)).1 := by unfold cN; rw [dysN_s]
def ThS (B N : Nat → Int32) (K : Nat) : Prop := ∀ i, i ≤ K → WB (mN B N i) B ∧ kN (mN B N i) 2 = kN N 2 + i ∧ (i < K → lvW lg0 B (dayN (mN B N i)) (kN N 2 + i + 1)) ∧ (∀ k, hiP k → mN B N i k = N k) ∧ EqC (cN B N i) (mN B N i)
section Sq
variable {F : Nat} {S T : St} {n : Nat} {N B : Nat → Int32} {K : Nat}
theorem thS_g (g : Cl S n 48 N B) (hs : SpF S 48) (P : Pln S 48 N (kN N 2)) (h : kN N 2 + K ≤ 22000) : ThS B N K := by
  have way := Cl.dys g (by omega) hs P (K := K) h (Or.inl rfl)
  have n9 := g.c0.wb.n9
  have lw : ∀ i, i < K → lvW lgN B (dayN (cN B N i)) (kN N 2 + i + 1) := by
    intro i hi
    obtain ⟨V, y1, y2, -, y4⟩ := way i (by omega)
    have lt2 : kN (cN B N i) 2 < 22000 := by unfold cN; omega
    have gd := y1.day (by omega) (by unfold cN at lt2; exact lt2) (Or.inl rfl)
    have sd : SpF (ui V 701 48 (nI (kN (dysN lgN B N i).1 2 + 1))) 48 := y2.frm (fun _ _ => rfl) rfl
    exact Cl.lvw (by omega) sd gd _
  intro i
  induction i with
  | zero =>
    intro _
    refine ⟨g.c0.wb, rfl, fun hK => ?_, fun _ _ => rfl, EqC.rf _⟩
    exact lvW_0 (EqC.rf _) (g.c0.wb.day (by omega)) (by
      unfold isCnt kN
      rw [dayN_n (by omega)]
      exact n9) (lw 0 hK)
  | succ i ih =>
    intro hi
    obtain ⟨w, k2, lv, hi', ec⟩ := ih (by omega)
    obtain ⟨V, y1, y2, -, y4⟩ := way i (by omega)
    obtain ⟨V2, z1, z2, -, z4⟩ := way (i + 1) (by omega)
    have wc : WB (cN B N i) B := y1.c0.wb
    have e : EqC (cN B N (i + 1)) (mN B N (i + 1)) := by
      rw [cN_s, mN_s]
      have y4' : kN (cN B N i) 2 = kN N 2 + i := y4
      exact (dyN_cg isLg_lg isLg_0 ec wc (by omega) (by rw [y4']; exact lw i (by omega))).1
    have hh : ∀ k, hiP k → mN B N (i + 1) k = N k := fun k hk => by
      rw [mN_s, dyN_hi hk w.n8.2 w.n4.2 w.n7.2]
      exact hi' k hk
    have i9 : isCnt (mN B N (i + 1)) 9 60 := by
      unfold isCnt kN
      rw [hh 9 (Or.inl rfl)]
      exact n9
    have z1' : Cl V2 n 48 (cN B N (i + 1)) B := z1
    have kk : kN (mN B N (i + 1)) 2 = kN N 2 + (i + 1) := by
      rw [e.kn (by omega) (by omega)]; exact z4
    refine ⟨e.wb (EqB.rf _ _) i9 z1'.c0.wb, kk, fun hK => ?_, hh, e⟩
    have kc : kN (cN B N (i + 1)) 2 = kN N 2 + (i + 1) := z4
    exact lvW_0 (dayN_cg e) (z1'.c0.wb.day (by omega)) (by
      unfold isCnt kN
      rw [dayN_n (by omega)]
      exact i9) (lw (i + 1) hK)
theorem restP.seq (t : ThS B N K) (h : kN N 2 + K ≤ 22000) {i : Nat} (r : restP (mN B N i) (kN N 2 + i)) : ∀ j, i + j ≤ K → EqX (fun k => k = 2) (mN B N i) (mN B N (i + j)) ∧ restP (mN B N (i + j)) (kN N 2 + (i + j)) := by
  intro j
  induction j with
  | zero => intro _; exact ⟨fun _ _ _ _ => rfl, r⟩
  | succ j ih =>
    intro hj
    obtain ⟨e, r2⟩ := ih (by omega)
    obtain ⟨w, k2, -, -, -⟩ := t (i + j) (by omega)
    rw [← k2] at r2
    obtain ⟨e2, r3⟩ := r2.step (L := lg0) isLg_0 w (by omega)
    rw [← Nat.add_assoc, mN_s]
    refine ⟨fun k h1 h9 h2 => (e2 k h1 h9 h2).trans (e k h1 h9 h2), ?_⟩
    rw [k2] at r3
    exact r3
/-- the class on the way -/
def InC (S : St) (n : Nat) (B N : Nat → Int32) (i : Nat) (T : St) : Prop := Cl T n 48 (cN B N i) B ∧ SpF T 48 ∧ Pln T 48 (cN B N i) (kN N 2 + i) ∧ kN (cN B N i) 2 = kN N 2 + i ∧ Eqv S T ∧ FxF T
theorem InC.begin (h : Rel S n) (hF : 1000 ≤ F) : ∃ T, f_X10_lookAhead F S 0 = some T ∧ InC S n (ai S 200) (ai S 198) 0 T := by
  obtain ⟨T, t1, t2, t3, t4, t5, t6⟩ := e_lookAhead (F := F) h hF
  exact ⟨T, t1, t2, t3, t4, rfl, t5, t6⟩
theorem InC.step {i : Nat} (c : InC S n B N i T) (h : kN N 2 + i < 22000) (hF : 1000 ≤ F) : ∃ r T', f_X8_beginDay F T 48 = some (r, T') ∧ InC S n B N (i + 1) T' := by
  obtain ⟨c1, c2, c3, c4, c5, c6⟩ := c
  have w := c1.c0.wb
  obtain ⟨T', q1, q2, q3, q4⟩ := e_beginDay (F := F) c1 (by omega) c2 (by rw [c4]; exact c3) (by omega) (Or.inl rfl) hF
  have e := (dyN_2 (B := B) isLg_lg w.n8.2 w.n4.2 w.n7.2 (by omega : kN (cN B N i) 2 < 22000)).2
  have e2 := c5.tr q3.eqv
  rw [c4] at q4
  refine ⟨_, T', q1, by rw [cN_s]; exact q2, c2.frm q3.2.1 q3.2.2, by rw [cN_s]; exact q4, by rw [cN_s, e, c4]; omega, e2, c6.eqv q3.eqv⟩
theorem InC.rest {i : Nat} (c : InC S n B N i T) (t : ThS B N K) (hi : i ≤ K) : ∃ r : Int32, f_X8_isAtRest F T 48 = some (r, T) ∧ (r = 0 ∨ (r = 1 ∧ restP (mN B N i) (kN N 2 + i))) := by
  obtain ⟨c1, c2, c3, c4, c5, c6⟩ := c
  obtain ⟨r, r1, r2⟩ := e_isAtRest (F := F) c1 c2 c3
  refine ⟨r, r1, r2.imp id (fun y => ⟨y.1, y.2.cong (t i hi).2.2.2.2 c1.c0.wb⟩)⟩
/-- the model on the way -/
def InT (T0 : St) (B N : Nat → Int32) (i : Nat) (T : St) : Prop := LvT T0 T ∧ ai T 198 = mN B N i ∧ si T 1005 197 = 1 ∧ ai T 200 = B ∧ FxF T ∧ TqI (mN B N i) (si T 1021 197) (si T 1022 197) (kN N 2 + i)
theorem InT.begin (hx : FxF S) (hF : 100000 ≤ F) : ∃ T0, f_X11_beginThought F S 197 = some T0 ∧ InT T0 (ai S 200) (ai S 198) 0 T0 ∧ (∀ k, k < 6391 → ai T0 206 k = ai S 198 k) ∧ BgT S T0 := by
  obtain ⟨T0, t1, t2, t3, t4, t5, t6⟩ := m_begT (F := F) hx hF
  exact ⟨T0, t1, ⟨LvT.rf T0, t6.2.2.1 198 (by omega), t3, t6.2.2.1 200 (by omega), t2, Or.inl t4⟩, t5, t6⟩
theorem InT.step {T0 : St} {i : Nat} (c : InT T0 B N i T) (t : ThS B N K) (hi : i < K) (h : kN N 2 + K ≤ 22000) (hF : 1000 ≤ F) : ∃ r T', f_X11_passDay F T 197 = some (r, T') ∧ InT T0 B N (i + 1) T' := by
  obtain ⟨c1, c2, c3, c4, c5, c6⟩ := c
  obtain ⟨w, k2, lv, -, -⟩ := t i (by omega)
  obtain ⟨T', q1, q2, q3, q4⟩ := m_passDayT (F := F) (S := T) (B := B) c5 c3 c4 (by rw [c2]; exact w) (by rw [c2]; omega) (by rw [c2, k2]; exact lv hi) (by rw [c2, k2]; exact c6) hF
  rw [c2] at q3 q4
  rw [k2] at q4
  refine ⟨_, T', q1, c1.tr q2, by rw [mN_s]; exact q3, (q2.1.1.2.2.1 1005 (by omega)).trans c3, q2.1.2.1.trans c4, q2.fx c5, by rw [mN_s]; exact q4⟩
theorem InT.end {T0 : St} {i : Nat} (c : InT T0 B N i T) (t : ThS B N K) (hi : i ≤ K) (hN : ai T0 198 = N) (s0 : si S 1005 197 = 0) (b6 : ∀ k, k < 6391 → ai T0 206 k = ai S 198 k) (b : BgT S T0) (hF : 100000 ≤ F) : ∃ T2, f_X11_endThought F T 197 = some T2 ∧ Eqv S T2 ∧ al T2 = al S ∧ si T2 1000 197 = si S 1000 197 := by
  obtain ⟨c1, c2, c3, c4, c5, c6⟩ := c
  obtain ⟨T2, e1, e2, e3, e4, e5⟩ := m_endT (F := F) c5 hF
  refine ⟨T2, e1, thoughtE s0 b6 b c1 (fun k hk => ?_) e2 e3 e4 e5⟩
  rw [c2, hN]
  exact (t i hi).2.2.2.1 k (Or.inr (by omega))
end Sq
