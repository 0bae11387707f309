/-! advance -/
abbrev aP (x : Int32) : Prop := 1 ≤ x ∧ x ≤ 1000
abbrev aQ (N : Nat → Int32) (x : Int32) : Prop := N 2 + x ≤ 20000
theorem aP_of {x : Int32} (h : aP x) : ∃ k, x = nI k ∧ 1 ≤ k ∧ k ≤ 1000 := by
  obtain ⟨k, hk, rfl⟩ := nI_of (x := x) (by
    intro z
    have := h.1
    rw [Int32.lt_iff_toInt_lt] at z
    rw [Int32.le_iff_toInt_le] at this
    have e1 : (1 : Int32).toInt = 1 := rfl
    have e0 : (0 : Int32).toInt = 0 := rfl
    omega)
  refine ⟨k, rfl, (nI_leI (a := 1) (by omega) hk).mp h.1, (nI_leI (b := 1000) hk (by omega)).mp h.2⟩
theorem aQ_of {N B : Nat → Int32} (w : WB N B) {k : Nat} (hk : k ≤ 1000) : aQ N (nI k) ↔ kN N 2 + k ≤ 20000 := by
  have := w.n2.2
  unfold aQ
  rw [w.n2.1, nI_add]
  exact nI_leI (b := 20000) (by omega) (by omega)
section Ma
variable {F : Nat} {S : St} {B : Nat → Int32}
/-- the model's conditions -/
theorem m_advIn (hx : FxF S) (w : WB (ai S 198) B) (x : Int32) : f_X11_advance F S 197 x = Option.bind (some (bI (aP x ∧ aQ (ai S 198) x), ui S 1000 197 (if ¬ aP x then 1 else if ¬ aQ (ai S 198) x then 2 else 0))) (fun z15 => lt z15.1 fun r17 => lt z15.2 fun S16 =>
    if ¬ r17 = 0 then (Option.bind (f_X11_remember F S16 197) fun S21 => f_X11_advance_L48 F F S21 197 x 0 0) else (some (0, S16))) := by
  have b2 := w.n2.2
  unfold f_X11_advance
  rw [show f_X11_in F S x.toInt64 1 1000 = some (bI (1 ≤ x ∧ x ≤ 1000), S) from e_in F S x 1 1000, ob_some]
  simp only [lt_eq]
  rw [hx.r1001_197, ob_some, hx.l198, show (2 : Int32) = nI 2 from rfl, cki_nI (by omega) (by omega), nI_clamp (by omega)]
  have go : ∀ (Q : Prop) [Decidable Q], (aP x → (Q ↔ aQ (ai S 198) x)) → f_X11_advance_L32 F S 197 x (bI Q) (bI (1 ≤ x ∧ x ≤ 1000)) 197 = Option.bind (some (bI (aP x ∧ aQ (ai S 198) x), ui S 1000 197 (if ¬ aP x then 1 else if ¬ aQ (ai S 198) x then 2 else 0))) (fun z15 => lt z15.1 fun r17 => lt z15.2 fun S16 =>
    if ¬ r17 = 0 then (Option.bind (f_X11_remember F S16 197) fun S21 => f_X11_advance_L48 F F S21 197 x 0 0) else (some (0, S16))) := by
    intro Q _ hQ
    unfold f_X11_advance_L32
    rw [show f_X11_passes2 F S 197 (bI (1 ≤ x ∧ x ≤ 1000)) (bI Q) = some (bI (aP x ∧ Q), ui S 1000 197 (if ¬ aP x then 1 else if ¬ Q then 2 else 0)) from e_passes2 F S _ Q]
    by_cases p : aP x
    · rw [bI_congr (p := aP x ∧ Q) (q := aP x ∧ aQ (ai S 198) x) ⟨fun y => ⟨y.1, (hQ p).mp y.2⟩, fun y => ⟨y.1, (hQ p).mpr y.2⟩⟩, if_neg (show ¬ ¬ aP x from fun y => y p), if_neg (show ¬ ¬ aP x from fun y => y p)]
      by_cases q : Q
      · rw [if_neg (show ¬ ¬ Q from fun y => y q), if_neg (show ¬ ¬ aQ (ai S 198) x from fun y => y ((hQ p).mp q))]
      · rw [if_pos q, if_pos (fun y => q ((hQ p).mpr y))]
    · rw [bI_congr (p := aP x ∧ Q) (q := aP x ∧ aQ (ai S 198) x) ⟨fun y => absurd y.1 p, fun y => absurd y.1 p⟩, if_pos p, if_pos p]
  have key : aP x → ((20000 : Int64) < (ai S 198 2).toInt64 + x.toInt64 ↔ ¬ aQ (ai S 198) x) := by
    intro p
    obtain ⟨k, rfl, k1, k2⟩ := aP_of p
    unfold aQ
    rw [w.n2.1, sum64 b2 (by omega), nI_add, show (20000 : Int64) = (20000 : Int32).toInt64 from rfl, lt64, le_nlt]
    exact ⟨fun a b => b a, fun a => Classical.byContradiction a⟩
  by_cases z : 0 < lg_cmp ((ai S 198 2).toInt64 + x.toInt64) 20000
  · rw [if_pos z]
    have z' := (lg_cmp_gt _ _).mp z
    exact go False (fun p => ⟨fun y => y.elim, fun y => (key p).mp z' y⟩)
  · rw [if_neg z]
    have z' : ¬ (20000 : Int64) < (ai S 198 2).toInt64 + x.toInt64 := fun y => z ((lg_cmp_gt _ _).mpr y)
    exact go True (fun p => ⟨fun _ => Classical.byContradiction (fun y => z' ((key p).mpr y)), fun _ => True.intro⟩)
end Ma
section A
variable {F : Nat} {xs : Nat → Int32} {L : Nat} {S : St} {n : Nat} {i : Int32}
theorem ok_46 (hF : 100000 ≤ F) (h : Rel S n) (hi : ∀ k : Nat, k < 6 → vp_in (i + nI k) L) : Ok (f_law46 F xs L S n 0 197 210 211 i) := by
  have h1 : vp_in (i + 1) L := hi 1 (by omega)
  unfold f_law46 f_L_advance
  simp only [cki_t h1]
  generalize xs (Int32.toNatClampNeg (i + 1)) = x
  have hx := h.fx
  have b2 := h.w.n2.2
  by_cases hc : aP x ∧ aQ (ai S 198) x
  rotate_left
  · refine askC h (fm := fun S => f_X11_advance F S 197 x) (aP x) (aQ (ai S 198) x) 0 2 1 S ?_ (Eqv.rf S) rfl rfl (fun S' h' e => ?_)
    · unfold f_X10_advance f_X10_advance_L12
      by_cases c1 : aP x
      · rw [if_pos c1, if_neg (fun y => hc ⟨c1, y⟩), if_neg (le_nlt.mp c1.1), if_pos c1.2, hx.r905_0, ob_some, h.c0.s701, if_neg (fun y => hc ⟨c1, y⟩)]
      · rw [if_neg c1]
        by_cases c2 : x < 1
        · rw [if_pos c2]
        · rw [if_neg c2, if_neg (fun y => c1 ⟨le_nlt.mpr c2, y⟩)]
    · have e1 := m_advIn (F := F) h'.fx h'.w x
      rw [e.net, ob_some, bI_f hc] at e1
      simp only [lt_eq] at e1
      rw [if_neg (fun y => y True.intro)] at e1
      exact ⟨_, _, e1, eqv_thr S' _, rfl, rfl, fun p q => absurd ⟨p, q⟩ hc⟩
  · obtain ⟨c1, c2⟩ := hc
    have c0 := c1
    obtain ⟨K, rfl, K1, K2⟩ := aP_of c0
    have c3 : kN (ai S 198) 2 + K ≤ 20000 := (aQ_of h.w K2).mp c2
    obtain ⟨hh, ff, Ns, Bs, rc, rm, rx⟩ := h.parts
    obtain ⟨T1, t1, t2, t3, t4, t5, t6, t7⟩ := rc.rem (F := F) (by omega)
    have hx1 := t2.2.1
    have g1 := t2.2.2.2
    obtain ⟨T2, p1, p2, p3⟩ := e_plan (F := F) g1 (by omega) hx1.sp27 (by omega)
    have hx2 : FxF T2 := p2.bd.fx hx1
    have g2 := g1.soft (by omega) p2
    obtain ⟨T3, q1, q2, q3⟩ := e_days (F := F) g2 hx2 p3 c3 hF
    have f3 := p2.bd.tr q3
    have hx3' : FxF T3 := f3.fx hx1
    obtain ⟨M, hM⟩ : ∃ M, M = (dysN lgN (ai S 200) (ai S 198) K).1 := ⟨_, rfl⟩
    obtain ⟨c, hcn⟩ : ∃ c, c = nI (dysN lgN (ai S 200) (ai S 198) K).2 := ⟨_, rfl⟩
    rw [← hM] at q2
    have fc : f_X10_advance F S 0 (nI K) = some (.inr c, T3) := by
      unfold f_X10_advance
      rw [if_neg (le_nlt.mp c1.1), if_pos c1.2, hx.r905_0, ob_some, h.c0.s701, if_pos c2, t1, ob_some, hx1.r905_0, ob_some, p1, ob_some, q1, hcn]
    have rc2 : RC T3 n (hN hh) (fN hh ff) (setF Ns (tN hh ff) (ai S 198)) (setF Bs (tN hh ff) (ai S 200)) M (ai S 200) :=
      ⟨t2.1, hx3', t2.2.2.1.agr (Nat.le_refl _) (fun k hk => f3.1 k (by have := t2.1; omega)) ((f3.1 0 (by omega)).1 _) ((f3.1 0 (by omega)).1 _), q2⟩
    have cf2 : CFr n S T3 := t3.tr (n' := n) ⟨fun k _ _ hk _ _ _ => f3.1 k (by omega), fun _ _ _ => (f3.1 0 (by omega)).1 _⟩ (Nat.le_refl _)
    obtain ⟨S1, hS1⟩ : ∃ S1, S1 = ual T3 210 0 c.toInt64 := ⟨_, rfl⟩
    have rc3 := rc2.out 0 c.toInt64
    have cf3 : CFr n S S1 := by rw [hS1]; exact cf2.tr (n' := n) (CFr.out n T3 0 _) (Nat.le_refl _)
    rw [← hS1] at rc3
    have rx3 := rx.cfr cf3 h.hn
    have hx3 := rc3.2.1
    have n1 : ai S1 198 = ai S 198 := (cf3.1 198 (by have := h.hn; omega) (by omega) (by omega) (by omega) (by omega) (by omega)).row
    have w1 : WB (ai S1 198) (ai S 200) := by rw [n1]; exact h.w
    obtain ⟨U1, u1, u2, m1, hxU, u4, u5, u6⟩ := mutM h rc rm cf3 hx3 (MSc.thr S1 0) hF
    have way := Cl.dys g2 (by omega) hx2.sp27 p3 (K := K) (by omega) (Or.inr c3)
    obtain ⟨U2, v1, v2, v3⟩ := m_days (F := F) (S := U1) (n := n) (B := ai S 200) (N := ai S 198) hxU u2.2.2.2.1 u5 u4 K2 (fun i hi => by obtain ⟨T, y1, y2, -⟩ := way i hi; exact ⟨T, y1, y2⟩) (fun i hi => by obtain ⟨T, -, -, -, y⟩ := way i hi; exact y) c3 hF
    rw [← hcn] at v1
    rw [← hM] at v3
    have fm : f_X11_advance F S1 197 (nI K) = some (c, U2) := by
      rw [m_advIn hx3 w1 (nI K), n1, ob_some, bI_t ⟨c1, c2⟩]
      simp only [lt_eq]
      rw [if_pos (show ¬ (1 : Int32) = 0 by decide), if_neg (show ¬ ¬ aP (nI K) from fun z => z c1), if_neg (show ¬ ¬ aQ (ai S 198) (nI K) from fun z => z c2), u1, ob_some, v1]
    have mU : MFr S1 U2 := m1.tr v2.1.1
    have rmU : RM U2 (hN hh) (fN hh ff) (setF Ns (tN hh ff) (ai S 198)) (setF Bs (tN hh ff) (ai S 200)) M (ai S 200) := by
      refine u2.net (fun k _ => by rw [v3]) ?_ v2.1.2.2.1 v2.1.2.2.2.1 v2.1.2.2.2.2.1 v2.1.2.2.2.2.2.1 (v2.1.1.2.2.1 1005 (by omega)) (v2.1.1.1 _ _)
      rw [v2.1.2.1, u5]
      exact EqB.rf _ _
    refine endM c T3 U2 ?_ (fm := fun S => f_X11_advance F S 197 (nI K)) (by rw [← hS1]; exact fm) ?_ ?_ (Rel.of (rc3.mfr mU) rmU (rx3.mfr mU))
    · rw [fc, ob_some]
      simp only [lt_eq, sm_r]
      rw [hx3'.l210, cki_0 (by omega) (by omega)]
      rfl
    · rw [v2.1.2.2.2.2.2.2, u6]
      exact th0 _ _
    · rw [← hS1, mU.2.2.2.2.1]
end A
