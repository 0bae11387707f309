/-! a message is delivered; the history is not looked at -/
/-- the class at rest, but for what it remembers -/
def RQ (S : St) (n : Nat) (N B : Nat → Int32) : Prop := 197 ≤ n ∧ FxF S ∧ (∃ h f, h ≤ 6 ∧ f < 6 ∧ si S 909 0 = nI h ∧ si S 908 0 = nI f) ∧ Cl S n 27 N B
theorem RC.rq {S : St} {n h f : Nat} {Ns Bs : Nat → Nat → Int32} {N B : Nat → Int32} (c : RC S n h f Ns Bs N B) : RQ S n N B := ⟨c.1, c.2.1, ⟨h, f, c.2.2.1.1, c.2.2.1.2.1, c.2.2.1.2.2.1, c.2.2.1.2.2.2.1⟩, c.2.2.2⟩
theorem RQ.lift {S T : St} {n n' : Nat} {N B : Nat → Int32} (c : RQ S n N B) (hn : n ≤ n') (e : ∀ i, (1 ≤ i ∧ i ≤ 19) ∨ (27 ≤ i ∧ i ≤ 43) ∨ i = 69 ∨ (197 ≤ i ∧ i < n) → SameO S T i) (z1 : si T 909 0 = si S 909 0) (z2 : si T 908 0 = si S 908 0) (e1 : ∀ g i, i < 197 → ¬ g = 700 → sr T g i = sr S g i) (e2 : ∀ i, i < 197 → ln T i = ln S i) : RQ T n' N B := by
  obtain ⟨c1, c2, ⟨h, f, h1, h2, h3, h4⟩, c4⟩ := c
  exact ⟨by omega, c2.agr (fun f i hf hi => e1 f i hi hf) (fun i hi => e2 i hi) (e 69 (by omega)).2.2.2.2.1, ⟨h, f, h1, h2, z1.trans h3, z2.trans h4⟩, c4.agr hn (fun i hi => e i (by omega))⟩
theorem RQ.grow {S T : St} {n n' : Nat} {N B : Nat → Int32} (c : RQ S n N B) (hn : n ≤ n') (e : ∀ i, i < n → SameO S T i) : RQ T n' N B := by
  have := c.1
  exact c.lift hn (fun i hi => e i (by omega)) ((e 0 (by omega)).1 _) ((e 0 (by omega)).1 _) (fun g i hi _ => (e i (by omega)).2.1 g) (fun i hi => (e i (by omega)).2.2.2.2.2)
theorem RQ.fed {S T : St} {n : Nat} {N B : Nat → Int32} (c : RQ S n N B) (e : FeC S T) : RQ T n N B :=
  c.lift (Nat.le_refl _) (fun i hi => e.so (by omega) (by omega)) (e.2.1 _ _ (by omega)) (e.2.1 _ _ (by omega)) (fun g i _ _ => e.1 g i) (fun i _ => by rw [e.2.2.2.2.2])
theorem e_rem0 {F : Nat} {S : St} {n : Nat} {N B : Nat → Int32} (c : RQ S n N B) (hF : 1000 ≤ F) : ∃ T, f_X10_remember F S 0 = some T ∧ RQ T n N B ∧ (∀ i, ¬ i = 0 → ¬ (70 ≤ i ∧ i ≤ 195) → SameO S T i) ∧ (∀ f i, ¬ (f = 700 ∧ 70 ≤ i) → sr T f i = sr S f i) ∧ ln T = ln S := by
  obtain ⟨hn, hx, ⟨h, f, c1, c2, c3, c4⟩, g⟩ := c
  have tl := tN_lt h f
  obtain ⟨S1, hS1⟩ : ∃ S1, S1 = ui (ui S 908 0 (nI (fN h f))) 909 0 (nI (hN h - 1)) := ⟨_, rfl⟩
  have p : f_X10_remember F S 0 = f_X10_remember_L32 F S1 0 := by
    unfold f_X10_remember
    rw [c3]
    by_cases z : h < 6
    · rw [if_pos (show nI h < 6 from nI_lt (b := 6) z (by omega))]
      have e : S1 = S := by
        rw [hS1]
        unfold fN hN
        rw [if_pos z, if_pos z]
        show (up2 (up2 S.1 908 0 (nI f)) 909 0 (nI (h + 1 - 1)), S.2) = S
        have : up2 (up2 S.1 908 0 (nI f)) 909 0 (nI (h + 1 - 1)) = S.1 := by
          funext a b
          unfold up2
          by_cases q : a = 909 ∧ b = 0
          · rw [if_pos q, q.1, q.2, Nat.add_sub_cancel]; exact c3.symm
          · rw [if_neg q]
            by_cases q2 : a = 908 ∧ b = 0
            · rw [if_pos q2, q2.1, q2.2]; exact c4.symm
            · rw [if_neg q2]
        rw [this]
      rw [e]
    · have h6 : h = 6 := by omega
      subst h6
      rw [if_neg (by decide), c4, nI_1, mod6 (by omega)]
      simp only [lt_eq]
      rw [si_ui, if_neg (by decide), c3, show nI 6 - 1 = nI 5 by decide, hS1]
      rfl
  have s909 : si S1 909 0 = nI (hN h - 1) := by rw [hS1]; rfl
  have s908 : si S1 908 0 = nI (fN h f) := by rw [hS1, si_ui, if_neg (by decide)]; rfl
  have O1 : ∀ i, ¬ i = 0 → SameO S S1 i := fun i hi => by rw [hS1]; exact (SameO.ui _ hi).tr (SameO.ui _ hi)
  have hx1 : FxF S1 := by rw [hS1]; exact hx.agr (fun _ _ _ _ => rfl) (fun _ _ => rfl) rfl
  have g1 : Cl S1 n 27 N B := g.agr (Nat.le_refl _) (fun i hi => O1 i (by omega))
  obtain ⟨r, r1, -⟩ := g1.c0.ru
  have hd : SpF S1 (70 + 21 * tN h f) := hx1.2.2.1 _ (by
    have : ∀ t, t < 6 → 70 + 21 * t ∈ spools := by decide
    exact this _ tl)
  obtain ⟨S2, q1, q2⟩ := e_copyFrom (F := F) (S := S1) (s := 27) (d := 70 + 21 * tN h f) hx1.sp27 hd (Or.inl (by omega)) r1 hF
  have O2 := q2.1
  have hb : hN h - 1 < 6 ∧ hN h ≤ 6 ∧ 1 ≤ hN h := by
    unfold hN
    split <;> omega
  have fb : fN h f < 6 := by
    unfold fN
    split <;> omega
  have run : f_X10_remember_L32 F S1 0 = some (ui S2 909 0 (nI (hN h))) := by
    unfold f_X10_remember_L32 f_X10_pastAt
    rw [s909, s908, nI_add, lt_eq, mod6 (by omega), show (fN h f + (hN h - 1)) % 6 = tN h f from rfl]
    rw [if_neg (nI_pos (by omega)), hx1.r907_0, ob_some, hx1.l69, if_neg (nI_ge tl (by omega)), ob_some, hx1.l69, cki_nI tl (by omega), nI_clamp (by omega), hx1.2.2.2 _ tl, os_s, ob_some]
    simp only [lt_eq, os_s]
    rw [hx1.r905_0, ob_some, q1, ob_some, (O2 0 (by omega)).1, s909, nI_1, show hN h - 1 + 1 = hN h by omega]
  obtain ⟨S3, hS3⟩ : ∃ S3, S3 = ui S2 909 0 (nI (hN h)) := ⟨_, rfl⟩
  have O3 : ∀ i, ¬ i = 0 → SameO S2 S3 i := fun i hi => by rw [hS3]; exact SameO.ui _ hi
  have so : ∀ i, ¬ i = 0 → ¬ (70 ≤ i ∧ i ≤ 195) → SameO S S3 i := fun i i1 i2 => ((O1 i i1).tr (O2 i (by omega))).tr (O3 i i1)
  have srE : ∀ f i, ¬ (f = 700 ∧ 70 ≤ i) → sr S3 f i = sr S f i := fun f' i hfi => by
    rw [hS3, sr_ui, q2.2.1 f' i (by omega), hS1]
    rfl
  have lnE : ln S3 = ln S := by rw [hS3, ln_ui, q2.2.2.1, hS1]; rfl
  refine ⟨S3, by rw [p, run, hS3], ⟨hn, hx.agr (fun f' i hf _ => srE f' i (fun z => hf z.1)) (fun i _ => by rw [lnE]) (so 69 (by omega) (by omega)).2.2.2.2.1, ⟨hN h, fN h f, hb.2.1, fb, by rw [hS3]; rfl, ?_⟩, g.agr (Nat.le_refl _) (fun i hi => so i (by omega) (by omega))⟩, so, srE, lnE⟩
  rw [hS3, si_ui, if_neg (by decide), (O2 0 (by omega)).1]; exact s908
section Dv
variable {F : Nat} {S : St} {f N B : Nat → Int32} {L n : Nat}
theorem a_needUser (hx : FxF S) (cl : Cl S n 27 N B) {u : Nat} (hu : u < kN N 4) : f_X10_needUser F S 0 (nI u) = some (.inr (), S) := by
  obtain ⟨r, r1, r2, ru, ⟨q0, q1, q3, q4, q5, q6⟩, -⟩ := cl.2.1
  have n4 := cl.1.2.1.2.1
  have b4 := n4.2
  unfold f_X10_needUser
  rw [hx.r905_0, ob_some, r1, ob_some, ru.r606_0, ob_some, e_has (q4.trans n4.1), ob_some]
  simp only [lt_eq]
  rw [bI_t ⟨nI_pos' (by omega), nI_lt hu (by omega)⟩, if_pos (show ¬ (1 : Int32) = 0 by decide)]
theorem a_needClass (hx : FxF S) (cl : Cl S n 27 N B) {u : Nat} (hu : u < kN N 3) : f_X10_needClass F S 0 (nI u) = some (.inr (), S) := by
  obtain ⟨r, r1, r2, ru, ⟨q0, q1, q3, q4, q5, q6⟩, -⟩ := cl.2.1
  have n3 := cl.1.2.1.1
  have b3 := n3.2
  unfold f_X10_needClass
  rw [hx.r905_0, ob_some, r1, ob_some, ru.r602_0, ob_some, e_has (q3.trans n3.1), ob_some]
  simp only [lt_eq]
  rw [bI_t ⟨nI_pos' (by omega), nI_lt hu (by omega)⟩, if_pos (show ¬ (1 : Int32) = 0 by decide)]
/-- what cut writes -/
theorem CtF.so {T : St} (h : CtF S T) {k : Nat} (a : ¬ k = 24) (b : ¬ cutA k) : SameO S T k := ⟨fun f => h.2.1 f k (fun y => a y.2), fun f => h.1 f k, h.2.2.1 k b, by rw [h.2.2.2.1], by rw [h.2.2.2.2.1], by rw [h.2.2.2.2.2]⟩
theorem RQ.cut {T : St} (c : RQ S n N B) (h : CtF S T) : RQ T n N B :=
  c.lift (Nat.le_refl _) (fun i hi => h.so (by omega) (by unfold cutA; omega)) (h.2.1 _ _ (by omega)) (h.2.1 _ _ (by omega)) (fun g i _ _ => h.1 g i) (fun i _ => by rw [h.2.2.2.2.2])
theorem e_delv {rec : Nat} {c : Int32} (rc : RQ S n N B) (hi : Inp S f L) (hg : gdC f L) (hm : kN N 7 < 120) (hbw : bwN N B f L (kC f L) ≤ 8000) (h4 : 0 < kN N 4) (hr0 : 0 < rec) (hrc : rec < 2 ^ kN N 4) (hru : ∀ u, rec.testBit u = true → u < kN N 4) (hcl : c = -1 ∨ ∃ cc, c = nI cc ∧ cc < kN N 3) (hF : 100000 ≤ F) :
    ∃ T nT, f_X10_deliver F S n 0 0 (nI rec) c = some (.inr (if bN N rec (szC f L (kC f L)) = rec then -2 else nI (kN N 7)), T, nT) ∧ RQ T nT (afN N B f L 0 rec c) (afB N B f L rec) ∧ si T 1 20 = 0 ∧ n ≤ nT ∧ (∀ k, 197 ≤ k → k < n → SameO S T k) ∧ sr T 700 27 = sr S 700 27 ∧ (bN N rec (szC f L (kC f L)) = rec → ar T 29 = ar S 29) ∧ (¬ bN N rec (szC f L (kC f L)) = rec → ar T 29 (kN N 7) = some n ∧ ∀ x, ¬ x = kN N 7 → ar T 29 x = ar S 29 x) := by
  have hn := rc.1
  have hx := rc.2.1
  have cl := rc.2.2.2
  have n3 := cl.1.2.1.1
  have n4 := cl.1.2.1.2.1
  have n7 := cl.1.2.1.2.2.2.2.1
  have b4 := n4.2
  have p10 : 2 ^ kN N 4 ≤ 2 ^ 10 := Nat.pow_le_pow_right (by omega) b4
  obtain ⟨r, r1, r2⟩ := e_allUsers (F := F) cl.c0
  -- the text is cut
  obtain ⟨T0, k1, k2, k3⟩ := e_cut (F := F) hx hi.1 hi.2.1 hi.2.2 (by omega)
  have ct := k3 hg
  have rc0 := rc.cut k2
  have hx0 := rc0.2.1
  have cl0 := rc0.2.2.2
  have so0 : ∀ k, ¬ k = 24 → ¬ cutA k → SameO S T0 k := fun k a b => k2.so a b
  have hi0 : Inp T0 f L := ⟨hi.1, ((so0 20 (by omega) (by unfold cutA; omega)).1 1).trans hi.2.1, fun i h => by rw [(so0 21 (by omega) (by unfold cutA; omega)).row]; exact hi.2.2 i h⟩
  have bw : f_X9_bytesWith F T0 33 24 = _ := e_bytesWith (F := F) hx0 cl0.c0 hx0.sp27 hi0 ct hg (by omega)
  -- it is remembered, and taken
  obtain ⟨T1', t1, t2, t3, t4, t5⟩ := e_rem0 (F := F) rc0 (by omega)
  have low : ∀ i, ¬ i = 0 → ¬ (70 ≤ i ∧ i ≤ 195) → SameO T0 T1' i := t3
  have hx1 := t2.2.1
  have i1 : Inp T1' f L := ⟨hi.1, ((low 20 (by omega) (by omega)).1 1).trans hi0.2.1, fun i h => by rw [(low 21 (by omega) (by omega)).row]; exact hi0.2.2 i h⟩
  have c1 : Cut T1' f L := ⟨((low 24 (by omega) (by omega)).1 103).trans ct.1, fun j hj => by rw [(low 25 (by omega) (by omega)).row, (low 26 (by omega) (by omega)).row]; exact ct.2 j hj⟩
  obtain ⟨T2, nT, p1, p2, p3, p4, p5, p6, p7, p8⟩ := e_receive (F := F) (sn := 0) (rec := rec) (c := c) t2.2.2.2 hx1 i1 c1 hg hn hm (by omega) (by omega) hru hcl (by omega)
  have hx2 : FxF T2 := hx1.agr (fun f i _ _ => p5 f i (by omega)) (fun i _ => p6 i (by omega)) (p4 69 (by omega) (by omega)).2.2.2.2.1
  obtain ⟨h, f', h1, h2, h3, h4'⟩ := t2.2.2.1
  have rc2 : RQ T2 nT (afN N B f L 0 rec c) (afB N B f L rec) :=
    ⟨by omega, hx2, ⟨h, f', h1, h2, ((p4 0 (by omega) (by omega)).1 _).trans h3, ((p4 0 (by omega) (by omega)).1 _).trans h4'⟩, p3⟩
  have l20 : si T2 1 20 = nI L := ((p4 20 (by omega) (by omega)).1 1).trans i1.2.1
  obtain ⟨T3, q1, q2, q3, q4, q5⟩ := e_cutA (F := F) l20 hi.1
  have rc3 : RQ T3 nT (afN N B f L 0 rec c) (afB N B f L rec) :=
    rc2.lift (Nat.le_refl _) (fun i hi => q3 i (by omega)) ((q3 0 (by omega)).1 _) ((q3 0 (by omega)).1 _) (fun g i _ _ => by rw [q4]) (fun i _ => by rw [q5])
  have a29 : ar T1' 29 = ar S 29 := ((low 29 (by omega) (by omega)).2.2.2.2.1).trans (so0 29 (by omega) (by unfold cutA; omega)).2.2.2.2.1
  have a39 : ar T3 29 = ar T2 29 := (q3 29 (by omega)).2.2.2.2.1
  refine ⟨T3, nT, ?_, rc3, q2, p2, fun k a b => ((so0 k (by omega) (by unfold cutA; omega)).tr (low k (by omega) (by omega))).tr ((p4 k b (by omega)).tr (q3 k (by omega))), ?_, fun y => ?_, fun y => ?_⟩
  rotate_left
  · rw [q4, p5 700 27 (by omega), t4 700 27 (by omega), k2.1]
  · rw [a39, p7 y, a29]
  · rw [a39]
    exact ⟨(p8 y).1, fun x hx => by rw [(p8 y).2 x hx, a29]⟩
  generalize (if bN N rec (szC f L (kC f L)) = rec then (-2 : Int32) else nI (kN N 7)) = q at *
  have l15 : f_X10_deliver_L15 F S n 0 0 (nI rec) c = some (.inr q, T3, nT) := by
    unfold f_X10_deliver_L15
    rw [hx.r905_0, ob_some, r1, ob_some, r2, ob_some]
    simp only [lt_eq]
    rw [if_pos ((areU b4).mpr ⟨rec, rfl, hrc⟩), if_neg (fun y => by have := (nI_eq (b := 0) (by omega) (by omega)).mp y; omega), hx.r902_0, ob_some, k1, ob_some]
    simp only []
    rw [pI_t hg, if_pos (show ¬ (1 : Int32) = 0 by decide), hx0.r905_0, ob_some, cl0.2.2.1.2.2, n7.1, if_neg (show ¬ (120 : Int32) ≤ nI (kN N 7) from nI_ge (b := 120) hm (by omega)), ob_some, hx0.sp27.r710_0, ob_some, hx0.r902_0, ob_some, bw, ob_some]
    simp only []
    rw [if_pos hbw, t1, ob_some, hx1.r905_0, ob_some, hx1.r902_0, ob_some]
    have p1' : f_X8_receive F T1' n 27 24 0 (nI rec) c = _ := p1
    rw [p1', ob_some]
    simp only []
    rw [hx2.r900_0, ob_some, q1, ob_some]
  unfold f_X10_deliver
  rw [show f_X10_needUser F S 0 0 = _ from a_needUser (F := F) (u := 0) hx cl h4, ob_some]
  simp only [lt_eq, sm_r]
  rcases hcl with e | ⟨cc, e, hcc⟩
  · rw [if_pos e]; exact l15
  · have b3 := n3.2
    rw [if_neg (by rw [e]; exact nI_nm (by omega)), e, a_needClass hx cl hcc, ob_some]
    rw [e] at l15
    simp only [lt_eq, sm_r]
    exact l15
end Dv
