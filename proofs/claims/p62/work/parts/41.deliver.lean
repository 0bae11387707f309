/-! a message is delivered -/
section Dv
variable {F : Nat} {S : St} {f N B : Nat → Int32} {L n hh ff : Nat} {Ns Bs : Nat → Nat → Int32}
theorem a_needUser (c : RC S n hh ff Ns Bs N B) {u : Nat} (hu : u < kN N 4) : f_X10_needUser F S 0 (nI u) = some (.inr (), S) := by
  obtain ⟨hn, hx, hc, cl⟩ := c
  obtain ⟨r, r1, r2, ru, ⟨q0, q1, q3, q4, q5, q6⟩, -⟩ := cl.2.1
  have n4 := cl.1.2.1.2.1
  have b4 := n4.2
  unfold f_X10_needUser
  rw [hx.r905_0, ob_some, r1, ob_some, ru.r606_0, ob_some, e_has (q4.trans n4.1), ob_some]
  simp only [lt_eq]
  rw [bI_t ⟨nI_le (a := 0) (by omega) (by omega), nI_lt hu (by omega)⟩, if_pos (show ¬ (1 : Int32) = 0 by decide)]
theorem a_needClass (c : RC S n hh ff Ns Bs N B) {u : Nat} (hu : u < kN N 3) : f_X10_needClass F S 0 (nI u) = some (.inr (), S) := by
  obtain ⟨hn, hx, hc, cl⟩ := c
  obtain ⟨r, r1, r2, ru, ⟨q0, q1, q3, q4, q5, q6⟩, -⟩ := cl.2.1
  have n3 := cl.1.2.1.1
  have b3 := n3.2
  unfold f_X10_needClass
  rw [hx.r905_0, ob_some, r1, ob_some, ru.r602_0, ob_some, e_has (q3.trans n3.1), ob_some]
  simp only [lt_eq]
  rw [bI_t ⟨nI_le (a := 0) (by omega) (by omega), nI_lt hu (by omega)⟩, if_pos (show ¬ (1 : Int32) = 0 by decide)]
/-- what cut writes -/
theorem CtF.so {T : St} (h : CtF S T) {k : Nat} (a : ¬ k = 24) (b : ¬ cutA k) : SameO S T k := ⟨fun f => h.2.1 f k (fun y => a y.2), fun f => h.1 f k, h.2.2.1 k b, by rw [h.2.2.2.1], by rw [h.2.2.2.2.1], by rw [h.2.2.2.2.2]⟩
theorem RC.cut {T : St} (c : RC S n hh ff Ns Bs N B) (h : CtF S T) : RC T n hh ff Ns Bs N B :=
  c.lift (Nat.le_refl _) (fun i hi => h.so (by omega) (by unfold cutA; omega)) (h.2.1 _ _ (by omega)) (h.2.1 _ _ (by omega)) (fun g i _ => h.1 g i) (fun i _ => by rw [h.2.2.2.2.2])
theorem e_delv {rec : Nat} {c : Int32} (rc : RC S n hh ff Ns Bs N B) (hi : Inp S f L) (hg : gdC f L) (hm : kN N 7 < 120) (hbw : bwN N B f L (kC f L) ≤ 8000) (h4 : 0 < kN N 4) (hr0 : 0 < rec) (hrc : rec < 2 ^ kN N 4) (hru : ∀ u, rec.testBit u = true → u < kN N 4) (hcl : c = -1 ∨ ∃ cc, c = nI cc ∧ cc < kN N 3) (hF : 100000 ≤ F) :
    ∃ T nT, f_X10_deliver F S n 0 0 (nI rec) c = some (.inr (if bN N rec (szC f L (kC f L)) = rec then -2 else nI (kN N 7)), T, nT) ∧ RC T nT (hN hh) (fN hh ff) (setF Ns (tN hh ff) N) (setF Bs (tN hh ff) B) (afN N B f L 0 rec c) (afB N B f L rec) ∧ si T 1 20 = 0 ∧ n ≤ nT ∧ ∀ k, 197 ≤ k → k < n → SameO S T k := by
  have hn := rc.1
  have hx := rc.2.1
  have cl := rc.2.2.2
  have n3 := cl.1.2.1.1
  have n4 := cl.1.2.1.2.1
  have n7 := cl.1.2.1.2.2.2.2.1
  have b4 := n4.2
  have p10 : 2 ^ kN N 4 ≤ 2 ^ 10 := Nat.pow_le_pow_right (by omega) b4
  obtain ⟨r, r1, r2⟩ := e_allUsers (F := F) cl.c0
  -- the text is cut
  obtain ⟨T0, k1, k2, k3⟩ := e_cut (F := F) hx hi.1 hi.2.1 hi.2.2 (by omega)
  have ct := k3 hg
  have rc0 := rc.cut k2
  have hx0 := rc0.2.1
  have cl0 := rc0.2.2.2
  have so0 : ∀ k, ¬ k = 24 → ¬ cutA k → SameO S T0 k := fun k a b => k2.so a b
  have hi0 : Inp T0 f L := ⟨hi.1, ((so0 20 (by omega) (by unfold cutA; omega)).1 1).trans hi.2.1, fun i h => by rw [(so0 21 (by omega) (by unfold cutA; omega)).row]; exact hi.2.2 i h⟩
  have bw : f_X9_bytesWith F T0 33 24 = _ := e_bytesWith (F := F) hx0 cl0.c0 hx0.sp27 hi0 ct hg (by omega)
  -- it is remembered, and taken
  obtain ⟨T1, t1, t2, -, -, -, -, -⟩ := rc0.rem (F := F) (by omega)
  obtain ⟨T1', v1, -, v3, -, v5, -, -, -, v9⟩ := e_remember (F := F) rc0.2.1 rc0.2.2.1 rc0.2.2.2 (by omega)
  obtain rfl : T1' = T1 := by rw [t1] at v1; exact (Option.some.inj v1).symm
  have tl := tN_lt hh ff
  have low : ∀ i, ¬ i = 0 → ¬ (70 ≤ i ∧ i ≤ 195) → SameO T0 T1' i := fun i a b => v3 i a (by omega)
  have hx1 := t2.2.1
  have i1 : Inp T1' f L := ⟨hi.1, ((low 20 (by omega) (by omega)).1 1).trans hi0.2.1, fun i h => by rw [(low 21 (by omega) (by omega)).row]; exact hi0.2.2 i h⟩
  have c1 : Cut T1' f L := ⟨((low 24 (by omega) (by omega)).1 103).trans ct.1, fun j hj => by rw [(low 25 (by omega) (by omega)).row, (low 26 (by omega) (by omega)).row]; exact ct.2 j hj⟩
  obtain ⟨T2, nT, p1, p2, p3, p4, p5, p6⟩ := e_receive (F := F) (sn := 0) (rec := rec) (c := c) t2.2.2.2 hx1 i1 c1 hg hn hm (by omega) (by omega) hru hcl (by omega)
  have hx2 : FxF T2 := hx1.agr (fun f i _ _ => p5 f i (by omega)) (fun i _ => p6 i (by omega)) (p4 69 (by omega) (by omega)).2.2.2.2.1
  have rc2 : RC T2 nT (hN hh) (fN hh ff) (setF Ns (tN hh ff) N) (setF Bs (tN hh ff) B) (afN N B f L 0 rec c) (afB N B f L rec) :=
    ⟨by omega, hx2, t2.2.2.1.agr p2 (fun i hi => p4 i (by omega) (by omega)) ((p4 0 (by omega) (by omega)).1 _) ((p4 0 (by omega) (by omega)).1 _), p3⟩
  have l20 : si T2 1 20 = nI L := ((p4 20 (by omega) (by omega)).1 1).trans i1.2.1
  obtain ⟨T3, q1, q2, q3, q4, q5⟩ := e_cutA (F := F) l20 hi.1
  have rc3 : RC T3 nT (hN hh) (fN hh ff) (setF Ns (tN hh ff) N) (setF Bs (tN hh ff) B) (afN N B f L 0 rec c) (afB N B f L rec) :=
    rc2.lift (Nat.le_refl _) (fun i hi => q3 i (by omega)) ((q3 0 (by omega)).1 _) ((q3 0 (by omega)).1 _) (fun g i _ => by rw [q4]) (fun i _ => by rw [q5])
  refine ⟨T3, nT, ?_, rc3, q2, p2, fun k a b => ((so0 k (by omega) (by unfold cutA; omega)).tr (low k (by omega) (by omega))).tr ((p4 k b (by omega)).tr (q3 k (by omega)))⟩
  generalize (if bN N rec (szC f L (kC f L)) = rec then (-2 : Int32) else nI (kN N 7)) = q at *
  have l15 : f_X10_deliver_L15 F S n 0 0 (nI rec) c = some (.inr q, T3, nT) := by
    unfold f_X10_deliver_L15
    rw [hx.r905_0, ob_some, r1, ob_some, r2, ob_some]
    simp only [lt_eq]
    rw [if_pos ((areU b4).mpr ⟨rec, rfl, hrc⟩), if_neg (fun y => by have := (nI_eq (b := 0) (by omega) (by omega)).mp y; omega), hx.r902_0, ob_some, k1, ob_some]
    simp only []
    rw [pI_t hg, if_pos (show ¬ (1 : Int32) = 0 by decide), hx0.r905_0, ob_some, cl0.2.2.1.2.2, n7.1, if_neg (show ¬ (120 : Int32) ≤ nI (kN N 7) from nI_ge (b := 120) hm (by omega)), ob_some, hx0.r710_27, ob_some, hx0.r902_0, ob_some, bw, ob_some]
    simp only []
    rw [if_pos hbw, t1, ob_some, hx1.r905_0, ob_some, hx1.r902_0, ob_some]
    have p1' : f_X8_receive F T1' n 27 24 0 (nI rec) c = _ := p1
    rw [p1', ob_some]
    simp only []
    rw [hx2.r900_0, ob_some, q1, ob_some]
  unfold f_X10_deliver
  rw [show (0 : Int32) = nI 0 from rfl, a_needUser rc h4, ob_some]
  show (if c = -1 then _ else _) = _
  rcases hcl with e | ⟨cc, e, hcc⟩
  · rw [if_pos e]; exact l15
  · have b3 := n3.2
    rw [if_neg (by rw [e]; exact nI_nm (by omega)), e, a_needClass rc hcc, ob_some]
    rw [e] at l15
    exact l15
end Dv
