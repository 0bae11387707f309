/-! remember and undo -/
theorem EqB.rf (N B : Nat → Int32) : EqB N B B := fun _ _ _ _ => rfl
def HC (S : St) (n h f : Nat) (Ns Bs : Nat → Nat → Int32) : Prop := h ≤ 6 ∧ f < 6 ∧ si S 909 0 = nI h ∧ si S 908 0 = nI f ∧ ∀ i, i < h → Cl S n (70 + 21 * ((f + i) % 6)) (Ns ((f + i) % 6)) (Bs ((f + i) % 6))
theorem mod6 {a : Nat} (h : a < 100) : nI a - nI a / 6 * 6 = nI (a % 6) := (show ∀ a, a < 100 → nI a - nI a / 6 * 6 = nI (a % 6) by decide +kernel) a h
def hN (h : Nat) : Nat := if h < 6 then h + 1 else 6
def fN (h f : Nat) : Nat := if h < 6 then f else (f + 1) % 6
def tN (h f : Nat) : Nat := (fN h f + (hN h - 1)) % 6
def setF (Ns : Nat → Nat → Int32) (t : Nat) (N : Nat → Int32) : Nat → Nat → Int32 := fun s => if s = t then N else Ns s
theorem tN_lt (h f : Nat) : tN h f < 6 := Nat.mod_lt _ (by omega)
theorem tN_ne {h f i : Nat} (hh : h ≤ 6) (hf : f < 6) (hi : i < hN h - 1) : ¬ (fN h f + i) % 6 = tN h f := by
  unfold tN
  unfold hN at *
  by_cases z : h < 6
  · rw [if_pos z] at *
    have : fN h f < 6 := by unfold fN; rw [if_pos z]; exact hf
    omega
  · rw [if_neg z] at *
    have : fN h f < 6 := by unfold fN; rw [if_neg z]; omega
    omega
/-- the class remembers -/
theorem e_remember {F : Nat} {S : St} {n h f : Nat} {Ns Bs : Nat → Nat → Int32} {N B : Nat → Int32} (hx : FxF S) (c : HC S n h f Ns Bs) (g : Cl S n 27 N B) (hF : 1000 ≤ F) :
    ∃ S', f_X10_remember F S 0 = some S' ∧ HC S' n (hN h) (fN h f) (setF Ns (tN h f) N) (setF Bs (tN h f) B) ∧ (∀ i, ¬ i = 0 → ¬ (70 + 21 * tN h f ≤ i ∧ i ≤ 70 + 21 * tN h f + 20) → SameO S S' i) ∧ (∀ f, ¬ f = 908 → ¬ f = 909 → si S' f 0 = si S f 0) ∧ (∀ f' i, ¬ (f' = 700 ∧ i = 70 + 21 * tN h f) → sr S' f' i = sr S f' i) ∧ ai S' 0 = ai S 0 ∧ al S' 0 = al S 0 ∧ ar S' 0 = ar S 0 ∧ ln S' = ln S := by
  obtain ⟨c1, c2, c3, c4, c5⟩ := c
  have tl := tN_lt h f
  -- the place is made
  obtain ⟨S1, hS1⟩ : ∃ S1, S1 = ui (ui S 908 0 (nI (fN h f))) 909 0 (nI (hN h - 1)) := ⟨_, rfl⟩
  have p : f_X10_remember F S 0 = f_X10_remember_L32 F S1 0 := by
    unfold f_X10_remember
    rw [c3]
    by_cases z : h < 6
    · rw [if_pos (show nI h < 6 from nI_lt (b := 6) z (by omega))]
      have e : S1 = S := by
        rw [hS1]
        unfold fN hN
        rw [if_pos z, if_pos z]
        show (up2 (up2 S.1 908 0 (nI f)) 909 0 (nI (h + 1 - 1)), S.2) = S
        have : up2 (up2 S.1 908 0 (nI f)) 909 0 (nI (h + 1 - 1)) = S.1 := by
          funext a b
          unfold up2
          by_cases q : a = 909 ∧ b = 0
          · rw [if_pos q, q.1, q.2, Nat.add_sub_cancel]; exact c3.symm
          · rw [if_neg q]
            by_cases q2 : a = 908 ∧ b = 0
            · rw [if_pos q2, q2.1, q2.2]; exact c4.symm
            · rw [if_neg q2]
        rw [this]
      rw [e]
    · have h6 : h = 6 := by omega
      subst h6
      rw [if_neg (by decide), c4, nI_1, mod6 (by omega)]
      simp only [lt_eq]
      rw [si_ui, if_neg (by decide), c3, show nI 6 - 1 = nI 5 by decide, hS1]
      rfl
  have s909 : si S1 909 0 = nI (hN h - 1) := by rw [hS1]; rfl
  have s908 : si S1 908 0 = nI (fN h f) := by rw [hS1, si_ui, if_neg (by decide)]; rfl
  have O1 : ∀ i, ¬ i = 0 → SameO S S1 i := fun i hi => by rw [hS1]; exact (SameO.ui _ hi).tr (SameO.ui _ hi)
  have hx1 : FxF S1 := by rw [hS1]; exact hx.agr (fun _ _ _ _ => rfl) (fun _ _ => rfl) rfl
  have g1 : Cl S1 n 27 N B := g.agr (Nat.le_refl _) (fun i hi => O1 i (by omega))
  obtain ⟨r, r1, -⟩ := g1.c0.ru
  have hd : SpF S1 (70 + 21 * tN h f) := hx1.2.2.1 _ (by
    have : ∀ t, t < 6 → 70 + 21 * t ∈ spools := by decide
    exact this _ tl)
  obtain ⟨S2, q1, q2⟩ := e_copyFrom (F := F) (S := S1) (s := 27) (d := 70 + 21 * tN h f) hx1.sp27 hd (Or.inl (by omega)) r1 hF
  have O2 := q2.1
  have hb : hN h - 1 < 6 ∧ hN h ≤ 6 ∧ 1 ≤ hN h := by
    unfold hN
    split <;> omega
  have fb : fN h f < 6 := by
    unfold fN
    split <;> omega
  have run : f_X10_remember_L32 F S1 0 = some (ui S2 909 0 (nI (hN h))) := by
    unfold f_X10_remember_L32 f_X10_pastAt
    rw [s909, s908, nI_add, lt_eq, mod6 (by omega), show (fN h f + (hN h - 1)) % 6 = tN h f from rfl]
    rw [if_neg (nI_pos (by omega)), hx1.r907_0, ob_some, hx1.l69, if_neg (nI_ge tl (by omega)), ob_some, hx1.l69, cki_nI tl (by omega), nI_clamp (by omega), hx1.2.2.2 _ tl, os_s, ob_some]
    simp only [lt_eq, os_s]
    rw [hx1.r905_0, ob_some, q1, ob_some, (O2 0 (by omega)).1, s909, nI_1, show hN h - 1 + 1 = hN h by omega]
  obtain ⟨S3, hS3⟩ : ∃ S3, S3 = ui S2 909 0 (nI (hN h)) := ⟨_, rfl⟩
  have O3 : ∀ i, ¬ i = 0 → SameO S2 S3 i := fun i hi => by rw [hS3]; exact SameO.ui _ hi
  refine ⟨S3, by rw [p, run, hS3], ⟨hb.2.1, fb, by rw [hS3]; rfl, ?_, fun i hi => ?_⟩, fun i i1 i2 => ((O1 i i1).tr (O2 i i2)).tr (O3 i i1), fun f' f1 f2 => ?_, fun f' i hfi => ?_, ?_, ?_, ?_, ?_⟩
  · rw [hS3, si_ui, if_neg (by decide), (O2 0 (by omega)).1]; exact s908
  · by_cases z : (fN h f + i) % 6 = tN h f
    · unfold setF
      rw [z, if_pos rfl, if_pos rfl]
      exact (g1.copy q2 (by omega)).agr (Nat.le_refl _) (fun k hk => O3 k (by omega))
    · have i1 : i < hN h - 1 := by
        rcases Nat.lt_or_ge i (hN h - 1) with y | y
        · exact y
        · exfalso
          apply z
          unfold tN
          rw [show i = hN h - 1 by omega]
      unfold setF
      rw [if_neg z, if_neg z]
      have ml := Nat.mod_lt (fN h f + i) (show 0 < 6 by omega)
      have old : Cl S n (70 + 21 * ((fN h f + i) % 6)) (Ns ((fN h f + i) % 6)) (Bs ((fN h f + i) % 6)) := by
        unfold hN at i1
        by_cases y : h < 6
        · rw [if_pos y] at i1
          have e : fN h f = f := by unfold fN; rw [if_pos y]
          rw [e]
          exact c5 i (by omega)
        · rw [if_neg y] at i1
          have e : fN h f = (f + 1) % 6 := by unfold fN; rw [if_neg y]
          have := c5 (i + 1) (by omega)
          rw [show (f + (i + 1)) % 6 = (fN h f + i) % 6 by rw [e]; omega] at this
          exact this
      refine old.agr (Nat.le_refl _) (fun k hk => ((O1 k (by omega)).tr (O2 k ?_)).tr (O3 k (by omega)))
      omega
  · rw [hS3, si_ui, if_neg (fun z => f2 z.1), (O2 0 (by omega)).1, hS1, si_ui, if_neg (fun z => f2 z.1), si_ui, if_neg (fun z => f1 z.1)]
  · rw [hS3, sr_ui, q2.2.1 f' i hfi, hS1]
    rfl
  · rw [hS3, ai_ui, (O2 0 (by omega)).2.2.1, hS1]; rfl
  · rw [hS3, al_ui, (O2 0 (by omega)).2.2.2.1, hS1]; rfl
  · rw [hS3, ar_ui, (O2 0 (by omega)).2.2.2.2.1, hS1]; rfl
  · rw [hS3, ln_ui, q2.2.2.1, hS1]; rfl
def pM (f : Nat) : Prop := f = 1026 ∨ f = 1027
def pA (i : Nat) : Prop := i = 207 ∨ i = 208
