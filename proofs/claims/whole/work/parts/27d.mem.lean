/-! remember and undo -/
theorem EqB.rf (N B : Nat → Int32) : EqB N B B := fun _ _ _ _ => rfl
def HC (S : St) (n h f : Nat) (Ns Bs : Nat → Nat → Int32) : Prop := h ≤ 6 ∧ f < 6 ∧ si S 909 0 = nI h ∧ si S 908 0 = nI f ∧ ∀ i, i < h → Cl S n (70 + 21 * ((f + i) % 6)) (Ns ((f + i) % 6)) (Bs ((f + i) % 6))
def HM (S : St) (h f : Nat) (Ns Bs : Nat → Nat → Int32) : Prop := si S 1026 197 = nI h ∧ si S 1027 197 = nI f ∧ ∀ i, i < h → (∀ k, k < 6391 → ai S 207 (6391 * ((f + i) % 6) + k) = Ns ((f + i) % 6) k) ∧ ∀ q j, q < kN (Ns ((f + i) % 6)) 8 → j < kN (Ns ((f + i) % 6)) (4771 + 3 * q) → ai S 208 (96000 * ((f + i) % 6) + (200 * q + j)) = Bs ((f + i) % 6) (200 * q + j)
theorem Hs.split {S : St} {n : Nat} (g : Hs S n) : ∃ h f Ns Bs, HC S n h f Ns Bs ∧ HM S h f Ns Bs := by
  obtain ⟨h, f, g1, g2, g3, g4, g5, g6, g7⟩ := g
  exact ⟨h, f, fun t k => ai S 207 (6391 * t + k), fun t k => ai S 208 (96000 * t + k), ⟨g1, g2, g3, g5, g7⟩, g4, g6, fun i hi => ⟨fun k _ => rfl, fun q j _ _ => rfl⟩⟩
theorem Hs.join {S : St} {n h f : Nat} {Ns Bs : Nat → Nat → Int32} (c : HC S n h f Ns Bs) (m : HM S h f Ns Bs) : Hs S n := by
  obtain ⟨g1, g2, g3, g5, g7⟩ := c
  obtain ⟨g4, g6, g8⟩ := m
  exact ⟨h, f, g1, g2, g3, g4, g5, g6, fun i hi => (g7 i hi).cong (fun k hk => (g8 i hi).1 k hk) (fun q j a b => (g8 i hi).2 q j a b)⟩
theorem mod6 {a : Nat} (h : a < 100) : nI a - nI a / 6 * 6 = nI (a % 6) := (show ∀ a, a < 100 → nI a - nI a / 6 * 6 = nI (a % 6) by decide +kernel) a h
def hN (h : Nat) : Nat := if h < 6 then h + 1 else 6
def fN (h f : Nat) : Nat := if h < 6 then f else (f + 1) % 6
def tN (h f : Nat) : Nat := (fN h f + (hN h - 1)) % 6
def setF (Ns : Nat → Nat → Int32) (t : Nat) (N : Nat → Int32) : Nat → Nat → Int32 := fun s => if s = t then N else Ns s
theorem tN_lt (h f : Nat) : tN h f < 6 := Nat.mod_lt _ (by omega)
theorem tN_ne {h f i : Nat} (hh : h ≤ 6) (hf : f < 6) (hi : i < hN h - 1) : ¬ (fN h f + i) % 6 = tN h f := by
  unfold tN
  unfold hN at *
  by_cases z : h < 6
  · rw [if_pos z] at *
    have : fN h f < 6 := by unfold fN; rw [if_pos z]; exact hf
    omega
  · rw [if_neg z] at *
    have : fN h f < 6 := by unfold fN; rw [if_neg z]; omega
    omega
/-- the class remembers -/
theorem e_remember {F : Nat} {S : St} {n h f : Nat} {Ns Bs : Nat → Nat → Int32} {N B : Nat → Int32} (hx : FxF S) (c : HC S n h f Ns Bs) (g : Cl S n 27 N B) (hF : 1000 ≤ F) :
    ∃ S', f_X10_remember F S 0 = some S' ∧ HC S' n (hN h) (fN h f) (setF Ns (tN h f) N) (setF Bs (tN h f) B) ∧ (∀ i, ¬ i = 0 → ¬ (70 + 21 * tN h f ≤ i ∧ i ≤ 70 + 21 * tN h f + 20) → SameO S S' i) ∧ (∀ f, ¬ f = 908 → ¬ f = 909 → si S' f 0 = si S f 0) ∧ (∀ f' i, ¬ (f' = 700 ∧ i = 70 + 21 * tN h f) → sr S' f' i = sr S f' i) ∧ ai S' 0 = ai S 0 ∧ al S' 0 = al S 0 ∧ ar S' 0 = ar S 0 ∧ ln S' = ln S := by
  obtain ⟨c1, c2, c3, c4, c5⟩ := c
  have tl := tN_lt h f
  -- the place is made
  obtain ⟨S1, hS1⟩ : ∃ S1, S1 = ui (ui S 908 0 (nI (fN h f))) 909 0 (nI (hN h - 1)) := ⟨_, rfl⟩
  have p : f_X10_remember F S 0 = f_X10_remember_L32 F S1 0 := by
    unfold f_X10_remember
    rw [c3]
    by_cases z : h < 6
    · rw [if_pos (show nI h < 6 from nI_lt (b := 6) z (by omega))]
      have e : S1 = S := by
        rw [hS1]
        unfold fN hN
        rw [if_pos z, if_pos z]
        show (up2 (up2 S.1 908 0 (nI f)) 909 0 (nI (h + 1 - 1)), S.2) = S
        have : up2 (up2 S.1 908 0 (nI f)) 909 0 (nI (h + 1 - 1)) = S.1 := by
          funext a b
          unfold up2
          by_cases q : a = 909 ∧ b = 0
          · rw [if_pos q, q.1, q.2, Nat.add_sub_cancel]; exact c3.symm
          · rw [if_neg q]
            by_cases q2 : a = 908 ∧ b = 0
            · rw [if_pos q2, q2.1, q2.2]; exact c4.symm
            · rw [if_neg q2]
        rw [this]
      rw [e]
    · have h6 : h = 6 := by omega
      subst h6
      rw [if_neg (by decide), c4, nI_1, mod6 (by omega)]
      simp only [lt_eq]
      rw [si_ui, if_neg (by decide), c3, show nI 6 - 1 = nI 5 by decide, hS1]
      rfl
  have s909 : si S1 909 0 = nI (hN h - 1) := by rw [hS1]; rfl
  have s908 : si S1 908 0 = nI (fN h f) := by rw [hS1, si_ui, if_neg (by decide)]; rfl
  have O1 : ∀ i, ¬ i = 0 → SameO S S1 i := fun i hi => by rw [hS1]; exact (SameO.ui _ hi).tr (SameO.ui _ hi)
  have hx1 : FxF S1 := by rw [hS1]; exact hx.agr (fun _ _ _ _ => rfl) (fun _ _ => rfl) rfl
  have g1 : Cl S1 n 27 N B := g.agr (Nat.le_refl _) (fun i hi => O1 i (by omega))
  obtain ⟨r, r1, -⟩ := g1.c0.ru
  have hd : SpF S1 (70 + 21 * tN h f) := hx1.2.2.1 _ (by
    have : ∀ t, t < 6 → 70 + 21 * t ∈ spools := by decide
    exact this _ tl)
  obtain ⟨S2, q1, q2⟩ := e_copyFrom (F := F) (S := S1) (s := 27) (d := 70 + 21 * tN h f) hx1.sp27 hd (Or.inl (by omega)) r1 hF
  have O2 := q2.1
  have hb : hN h - 1 < 6 ∧ hN h ≤ 6 ∧ 1 ≤ hN h := by
    unfold hN
    split <;> omega
  have fb : fN h f < 6 := by
    unfold fN
    split <;> omega
  have run : f_X10_remember_L32 F S1 0 = some (ui S2 909 0 (nI (hN h))) := by
    unfold f_X10_remember_L32 f_X10_pastAt
    rw [s909, s908, nI_add, lt_eq, mod6 (by omega), show (fN h f + (hN h - 1)) % 6 = tN h f from rfl]
    rw [if_neg (nI_pos (by omega)), hx1.r907_0, ob_some, hx1.l69, if_neg (nI_ge tl (by omega)), ob_some, hx1.l69, cki_nI tl (by omega), nI_clamp (by omega), hx1.2.2.2 _ tl, os_s, ob_some]
    simp only [lt_eq, os_s]
    rw [hx1.r905_0, ob_some, q1, ob_some, (O2 0 (by omega)).1, s909, nI_1, show hN h - 1 + 1 = hN h by omega]
  obtain ⟨S3, hS3⟩ : ∃ S3, S3 = ui S2 909 0 (nI (hN h)) := ⟨_, rfl⟩
  have O3 : ∀ i, ¬ i = 0 → SameO S2 S3 i := fun i hi => by rw [hS3]; exact SameO.ui _ hi
  refine ⟨S3, by rw [p, run, hS3], ⟨hb.2.1, fb, by rw [hS3]; rfl, ?_, fun i hi => ?_⟩, fun i i1 i2 => ((O1 i i1).tr (O2 i i2)).tr (O3 i i1), fun f' f1 f2 => ?_, fun f' i hfi => ?_, ?_, ?_, ?_, ?_⟩
  · rw [hS3, si_ui, if_neg (by decide), (O2 0 (by omega)).1]; exact s908
  · by_cases z : (fN h f + i) % 6 = tN h f
    · unfold setF
      rw [z, if_pos rfl, if_pos rfl]
      exact (g1.copy q2 (by omega)).agr (Nat.le_refl _) (fun k hk => O3 k (by omega))
    · have i1 : i < hN h - 1 := by
        rcases Nat.lt_or_ge i (hN h - 1) with y | y
        · exact y
        · exfalso
          apply z
          unfold tN
          rw [show i = hN h - 1 by omega]
      unfold setF
      rw [if_neg z, if_neg z]
      have ml := Nat.mod_lt (fN h f + i) (show 0 < 6 by omega)
      have old : Cl S n (70 + 21 * ((fN h f + i) % 6)) (Ns ((fN h f + i) % 6)) (Bs ((fN h f + i) % 6)) := by
        unfold hN at i1
        by_cases y : h < 6
        · rw [if_pos y] at i1
          have e : fN h f = f := by unfold fN; rw [if_pos y]
          rw [e]
          exact c5 i (by omega)
        · rw [if_neg y] at i1
          have e : fN h f = (f + 1) % 6 := by unfold fN; rw [if_neg y]
          have := c5 (i + 1) (by omega)
          rw [show (f + (i + 1)) % 6 = (fN h f + i) % 6 by rw [e]; omega] at this
          exact this
      refine old.agr (Nat.le_refl _) (fun k hk => ((O1 k (by omega)).tr (O2 k ?_)).tr (O3 k (by omega)))
      omega
  · rw [hS3, si_ui, if_neg (fun z => f2 z.1), (O2 0 (by omega)).1, hS1, si_ui, if_neg (fun z => f2 z.1), si_ui, if_neg (fun z => f1 z.1)]
  · rw [hS3, sr_ui, q2.2.1 f' i hfi, hS1]
    rfl
  · rw [hS3, ai_ui, (O2 0 (by omega)).2.2.1, hS1]; rfl
  · rw [hS3, al_ui, (O2 0 (by omega)).2.2.2.1, hS1]; rfl
  · rw [hS3, ar_ui, (O2 0 (by omega)).2.2.2.2.1, hS1]; rfl
  · rw [hS3, ln_ui, q2.2.2.1, hS1]; rfl
/-- what the model's remembering and undoing may write: the words at f's, the arrays at A's -/
def Mf (PF PA : Nat → Prop) (S T : St) : Prop := (∀ f i, sr T f i = sr S f i) ∧ (∀ f i, ¬ (i = 197 ∧ PF f) → si T f i = si S f i) ∧ (∀ i, ¬ PA i → ai T i = ai S i) ∧ al T = al S ∧ ar T = ar S ∧ ln T = ln S
theorem Mf.rf {PF PA : Nat → Prop} (S : St) : Mf PF PA S S := ⟨fun _ _ => rfl, fun _ _ _ => rfl, fun _ _ => rfl, rfl, rfl, rfl⟩
theorem Mf.tr {PF PA : Nat → Prop} {S T U : St} (h : Mf PF PA S T) (g : Mf PF PA T U) : Mf PF PA S U := ⟨fun f i => (g.1 f i).trans (h.1 f i), fun f i q => (g.2.1 f i q).trans (h.2.1 f i q), fun i q => (g.2.2.1 i q).trans (h.2.2.1 i q), g.2.2.2.1.trans h.2.2.2.1, g.2.2.2.2.1.trans h.2.2.2.2.1, g.2.2.2.2.2.trans h.2.2.2.2.2⟩
theorem Mf.ui {PF PA : Nat → Prop} {S : St} {f : Nat} (v : Int32) (h : PF f) : Mf PF PA S (ui S f 197 v) := ⟨fun _ _ => rfl, fun f' i q => by rw [si_ui, if_neg (fun z => q ⟨z.2, by rw [z.1]; exact h⟩)], fun _ _ => rfl, rfl, rfl, rfl⟩
theorem Mf.uai {PF PA : Nat → Prop} {S : St} {i k : Nat} (v : Int32) (h : PA i) : Mf PF PA S (uai S i k v) := ⟨fun _ _ => rfl, fun _ _ _ => rfl, fun j q => by funext z; rw [ai_uai, if_neg (fun y => q (by rw [y.1]; exact h))], rfl, rfl, rfl⟩
theorem Mf.mono {PF PA QF QA : Nat → Prop} {S T : St} (h : Mf PF PA S T) (f : ∀ k, PF k → QF k) (a : ∀ k, PA k → QA k) : Mf QF QA S T := ⟨h.1, fun g i q => h.2.1 g i (fun z => q ⟨z.1, f _ z.2⟩), fun i q => h.2.2.1 i (fun z => q (a _ z)), h.2.2.2⟩
theorem Mf.fx {PF PA : Nat → Prop} {S T : St} (h : Mf PF PA S T) (x : FxF S) : FxF T := x.agr (fun f i _ _ => h.1 f i) (fun i _ => by rw [h.2.2.2.2.2]) (by rw [h.2.2.2.2.1])
def pM (f : Nat) : Prop := f = 1026 ∨ f = 1027
def pA (i : Nat) : Prop := i = 207 ∨ i = 208
theorem m_remember {F : Nat} {S : St} {h f : Nat} {Ns Bs : Nat → Nat → Int32} {N B : Nat → Int32} (hx : FxF S) (c : HM S h f Ns Bs) (cw : ∀ i, i < h → WB (Ns ((f + i) % 6)) (Bs ((f + i) % 6))) (hh : h ≤ 6) (hf : f < 6) (w : WB N B) (hN' : ∀ k, k < 6391 → ai S 198 k = N k) (hB : EqB N B (ai S 200)) (hF : 100000 ≤ F) :
    ∃ S', f_X11_remember F S 197 = some S' ∧ HM S' (hN h) (fN h f) (setF Ns (tN h f) N) (setF Bs (tN h f) B) ∧ Mf pM pA S S' := by
  obtain ⟨c1, c2, c3⟩ := c
  have tl := tN_lt h f
  have b8 := w.n8.2
  have hb : hN h - 1 < 6 ∧ hN h ≤ 6 ∧ 1 ≤ hN h := by
    unfold hN
    split <;> omega
  have fb : fN h f < 6 := by
    unfold fN
    split <;> omega
  obtain ⟨S1, hS1⟩ : ∃ S1, S1 = ui (ui S 1027 197 (nI (fN h f))) 1026 197 (nI (hN h - 1)) := ⟨_, rfl⟩
  have M1 : Mf pM pA S S1 := by rw [hS1]; exact (Mf.ui _ (Or.inr rfl)).tr (Mf.ui _ (Or.inl rfl))
  have p : f_X11_remember F S 197 = f_X11_remember_L32 F S1 197 := by
    unfold f_X11_remember
    rw [c1]
    by_cases z : h < 6
    · rw [if_pos (show ¬ nI h = 6 from fun y => by rw [show (6 : Int32) = nI 6 from rfl, nI_eq (by omega) (by omega)] at y; omega)]
      have e : S1 = S := by
        rw [hS1]
        unfold fN hN
        rw [if_pos z, if_pos z]
        show (up2 (up2 S.1 1027 197 (nI f)) 1026 197 (nI (h + 1 - 1)), S.2) = S
        have : up2 (up2 S.1 1027 197 (nI f)) 1026 197 (nI (h + 1 - 1)) = S.1 := by
          funext a b
          unfold up2
          by_cases q : a = 1026 ∧ b = 197
          · rw [if_pos q, q.1, q.2, Nat.add_sub_cancel]; exact c1.symm
          · rw [if_neg q]
            by_cases q2 : a = 1027 ∧ b = 197
            · rw [if_pos q2, q2.1, q2.2]; exact c2.symm
            · rw [if_neg q2]
        rw [this]
      rw [e]
    · have h6 : h = 6 := by omega
      subst h6
      rw [if_neg (by decide), c2, nI_1, mod6 (by omega)]
      simp only [lt_eq]
      rw [si_ui, if_neg (by decide), c1, show nI 6 - 1 = nI 5 by decide, hS1]
      rfl
  have s26 : si S1 1026 197 = nI (hN h - 1) := by rw [hS1]; rfl
  have s27 : si S1 1027 197 = nI (fN h f) := by rw [hS1, si_ui, if_neg (by decide)]; rfl
  have n1 : ai S1 198 = ai S 198 := by rw [hS1]; rfl
  have n2 : ai S1 200 = ai S 200 := by rw [hS1]; rfl
  have n7 : ai S1 207 = ai S 207 := by rw [hS1]; rfl
  have n8 : ai S1 208 = ai S 208 := by rw [hS1]; rfl
  have hx1 := M1.fx hx
  have q8 : ai S 198 8 = nI (kN N 8) := (hN' 8 (by omega)).trans w.n8.1
  -- the bytes
  have bytes : ∀ d k fu T, k + d = 200 * kN N 8 → d < fu → Mf pM pA S1 T → si T 1026 197 = nI (hN h - 1) → (∀ j, j < k → ai T 208 (96000 * tN h f + j) = (ai S 200 j).toInt8.toInt32) → (∀ j, ¬ (96000 * tN h f ≤ j ∧ j < 96000 * tN h f + 96000) → ai T 208 j = ai S 208 j) →
      ∃ T', f_X11_remember_L80 F fu T 197 (nI (tN h f)) (nI k) = some (ui T' 1026 197 (nI (hN h))) ∧ Mf pM pA S1 T' ∧ ai T' 207 = ai T 207 ∧ si T' 1027 197 = si T 1027 197 ∧ (∀ j, j < 200 * kN N 8 → ai T' 208 (96000 * tN h f + j) = (ai S 200 j).toInt8.toInt32) ∧ (∀ j, ¬ (96000 * tN h f ≤ j ∧ j < 96000 * tN h f + 96000) → ai T' 208 j = ai S 208 j) := by
    intro d
    induction d with
    | zero =>
      intro k fu T hk hfu m1 m2 m3 m4
      obtain ⟨fu, rfl⟩ : ∃ f', fu = f' + 1 := ⟨fu - 1, by omega⟩
      have : k = 200 * kN N 8 := by omega
      subst this
      have hxT := m1.fx hx1
      refine ⟨T, ?_, m1, rfl, rfl, m3, m4⟩
      unfold f_X11_remember_L80
      rw [hxT.r1001_197, ob_some, hxT.l198, show (8 : Int32) = nI 8 from rfl, cki_nI (by omega) (by omega), nI_clamp (by omega), m1.2.2.1 198 (by unfold pA; omega), n1, q8, show (200 : Int32) = nI 200 from rfl, nI_mul, if_pos (nI_le (Nat.le_refl _) (by omega)), m2, nI_1, show hN h - 1 + 1 = hN h by omega, lt_eq]
    | succ d ih =>
      intro k fu T hk hfu m1 m2 m3 m4
      obtain ⟨fu, rfl⟩ : ∃ f', fu = f' + 1 := ⟨fu - 1, by omega⟩
      have hxT := m1.fx hx1
      have a200 : ai T 200 k = ai S 200 k := by rw [m1.2.2.1 200 (by unfold pA; omega), n2]
      obtain ⟨T', t1, t2, t3, t4, t5⟩ := ih (k + 1) fu (uai T 208 (96000 * tN h f + k) (ai S 200 k).toInt8.toInt32) (by omega) (by omega) (m1.tr (Mf.uai _ (Or.inr rfl))) m2 (fun j hj => by
        rw [ai_uai]
        by_cases z : j = k
        · subst z; rw [if_pos ⟨rfl, rfl⟩]
        · rw [if_neg (by omega)]; exact m3 j (by omega)) (fun j hj => by rw [ai_uai, if_neg (by omega)]; exact m4 j hj)
      refine ⟨T', ?_, t2, t3.trans (by funext z; rw [ai_uai, if_neg (by omega)]), t4, t5⟩
      rw [← t1]
      conv => lhs; unfold f_X11_remember_L80
      rw [hxT.r1001_197, ob_some, hxT.l198, show (8 : Int32) = nI 8 from rfl, cki_nI (by omega) (by omega), nI_clamp (by omega), m1.2.2.1 198 (by unfold pA; omega), n1, q8, show (200 : Int32) = nI 200 from rfl, nI_mul, if_neg (nI_ge (by omega) (by omega)), hxT.r1025_197, ob_some, hxT.r1003_197, ob_some, hxT.l200, hxT.l208, show (96000 : Int32) = nI 96000 from rfl, nI_mul, nI_add, cki_nI (by omega) (by omega), cki_nI (by omega) (by omega), nI_clamp (by omega), nI_clamp (by omega), a200, lt_eq, lt_eq, nI_1]
  have words : ∀ d k fu T, k + d = 6391 → d < fu → Mf pM pA S1 T → si T 1026 197 = nI (hN h - 1) → si T 1027 197 = nI (fN h f) → (∀ j, j < k → ai T 207 (6391 * tN h f + j) = ai S 198 j) → (∀ j, ¬ (6391 * tN h f ≤ j ∧ j < 6391 * tN h f + 6391) → ai T 207 j = ai S 207 j) → ai T 208 = ai S 208 →
      ∃ T', f_X11_remember_L47 F fu T 197 (nI (tN h f)) (nI k) = some (ui T' 1026 197 (nI (hN h))) ∧ Mf pM pA S1 T' ∧ si T' 1027 197 = nI (fN h f) ∧ (∀ j, j < 6391 → ai T' 207 (6391 * tN h f + j) = ai S 198 j) ∧ (∀ j, ¬ (6391 * tN h f ≤ j ∧ j < 6391 * tN h f + 6391) → ai T' 207 j = ai S 207 j) ∧ (∀ j, j < 200 * kN N 8 → ai T' 208 (96000 * tN h f + j) = (ai S 200 j).toInt8.toInt32) ∧ (∀ j, ¬ (96000 * tN h f ≤ j ∧ j < 96000 * tN h f + 96000) → ai T' 208 j = ai S 208 j) := by
    intro d
    induction d with
    | zero =>
      intro k fu T hk hfu m1 m2 m22 m3 m4 m5
      obtain ⟨fu, rfl⟩ : ∃ f', fu = f' + 1 := ⟨fu - 1, by omega⟩
      have : k = 6391 := by omega
      subst this
      obtain ⟨T', t1, t2, t3, t4, t5, t6⟩ := bytes (200 * kN N 8) 0 F T (by omega) (by omega) m1 m2 (fun j hj => by omega) (fun j _ => by rw [m5])
      refine ⟨T', ?_, t2, t4.trans m22, fun j hj => by rw [t3]; exact m3 j hj, fun j hj => by rw [t3]; exact m4 j hj, t5, t6⟩
      unfold f_X11_remember_L47
      rw [if_pos (by decide)]
      exact t1
    | succ d ih =>
      intro k fu T hk hfu m1 m2 m22 m3 m4 m5
      obtain ⟨fu, rfl⟩ : ∃ f', fu = f' + 1 := ⟨fu - 1, by omega⟩
      have hxT := m1.fx hx1
      have a198 : ai T 198 k = ai S 198 k := by rw [m1.2.2.1 198 (by unfold pA; omega), n1]
      obtain ⟨T', t1, t2⟩ := ih (k + 1) fu (uai T 207 (6391 * tN h f + k) (ai S 198 k)) (by omega) (by omega) (m1.tr (Mf.uai _ (Or.inl rfl))) m2 m22 (fun j hj => by
        rw [ai_uai]
        by_cases z : j = k
        · subst z; rw [if_pos ⟨rfl, rfl⟩]
        · rw [if_neg (by omega)]; exact m3 j (by omega)) (fun j hj => by rw [ai_uai, if_neg (by omega)]; exact m4 j hj) (by funext z; rw [ai_uai, if_neg (by omega)]; exact congrFun m5 z)
      refine ⟨T', ?_, t2⟩
      rw [← t1]
      conv => lhs; unfold f_X11_remember_L47
      rw [show (6391 : Int32) = nI 6391 from rfl, if_neg (nI_ge (by omega) (by omega)), hxT.r1024_197, ob_some, hxT.r1001_197, ob_some, hxT.l198, hxT.l207, nI_mul, nI_add, cki_nI (by omega) (by omega), cki_nI (by omega) (by omega), nI_clamp (by omega), nI_clamp (by omega), a198, lt_eq, lt_eq, nI_1]
  obtain ⟨T', t1, t2, t22, t3, t4, t5, t6⟩ := words 6391 0 F S1 (by omega) (by omega) (Mf.rf S1) s26 s27 (fun j hj => by omega) (fun j _ => by rw [n7]) n8
  refine ⟨ui T' 1026 197 (nI (hN h)), ?_, ⟨rfl, by rw [si_ui, if_neg (by decide)]; exact t22, fun i hi => ?_⟩, (M1.tr t2).tr (Mf.ui _ (Or.inl rfl))⟩
  · rw [p]
    unfold f_X11_remember_L32
    rw [s27, s26, nI_add, lt_eq, mod6 (by omega), show (0 : Int32) = nI 0 from rfl]
    exact t1
  · show (∀ k, k < 6391 → ai T' 207 (6391 * ((fN h f + i) % 6) + k) = _) ∧ ∀ q j, _ → _ → ai T' 208 (96000 * ((fN h f + i) % 6) + (200 * q + j)) = _
    by_cases z : (fN h f + i) % 6 = tN h f
    · unfold setF
      rw [z, if_pos rfl, if_pos rfl]
      refine ⟨fun k hk => (t3 k hk).trans (hN' k hk), fun q j hq hj => ?_⟩
      obtain ⟨w1, -, -, -, w5⟩ := w.wP q hq
      have := w1.2
      rw [t5 (200 * q + j) (by omega), hB q j hq hj]
      exact w5 j hj
    · have i1 : i < hN h - 1 := by
        rcases Nat.lt_or_ge i (hN h - 1) with y | y
        · exact y
        · exfalso
          apply z
          unfold tN
          rw [show i = hN h - 1 by omega]
      unfold setF
      rw [if_neg z, if_neg z]
      have ml := Nat.mod_lt (fN h f + i) (show 0 < 6 by omega)
      have old : (∀ k, k < 6391 → ai S 207 (6391 * ((fN h f + i) % 6) + k) = Ns ((fN h f + i) % 6) k) ∧ ∀ q j, q < kN (Ns ((fN h f + i) % 6)) 8 → j < kN (Ns ((fN h f + i) % 6)) (4771 + 3 * q) → ai S 208 (96000 * ((fN h f + i) % 6) + (200 * q + j)) = Bs ((fN h f + i) % 6) (200 * q + j) := by
        unfold hN at i1
        by_cases y : h < 6
        · rw [if_pos y] at i1
          have e : fN h f = f := by unfold fN; rw [if_pos y]
          rw [e]
          exact c3 i (by omega)
        · rw [if_neg y] at i1
          have e : fN h f = (f + 1) % 6 := by unfold fN; rw [if_neg y]
          have := c3 (i + 1) (by omega)
          rw [show (f + (i + 1)) % 6 = (fN h f + i) % 6 by rw [e]; omega] at this
          exact this
      have oldw : WB (Ns ((fN h f + i) % 6)) (Bs ((fN h f + i) % 6)) := by
        unfold hN at i1
        by_cases y : h < 6
        · rw [if_pos y] at i1
          have e : fN h f = f := by unfold fN; rw [if_pos y]
          rw [e]
          exact cw i (by omega)
        · rw [if_neg y] at i1
          have e : fN h f = (f + 1) % 6 := by unfold fN; rw [if_neg y]
          have := cw (i + 1) (by omega)
          rw [show (f + (i + 1)) % 6 = (fN h f + i) % 6 by rw [e]; omega] at this
          exact this
      generalize (fN h f + i) % 6 = s at z ml old oldw
      have o8 := oldw.n8.2
      refine ⟨fun k hk => ?_, fun q j hq hj => ?_⟩
      · rw [t4 _ (by omega)]
        exact old.1 k hk
      · have := (oldw.wP q hq).1.2
        rw [t6 _ (by omega)]
        exact old.2 q j hq hj
