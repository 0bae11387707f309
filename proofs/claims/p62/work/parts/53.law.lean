/-! the whole law -/
theorem rm6_0 : rm6 (fun _ => 0) = 25 := by decide
section Wl
variable {F : Nat} {X : XS} {D B : Nat → Int32}
theorem ln_0 (ih : Ih X D (hoX X)) (zd : Zd D) : LN X D B ((fun _ => 0), 0, 0) (fun _ => 0) (fun _ => 0) 0 0 := by
  have z : ∀ k, 7 ≤ k → k < 11 → D k = 0 := zd.2.1.2.1
  have k8 : kN D 8 = 0 := by unfold kN; rw [z 8 (by omega) (by omega)]; rfl
  have k7 : kN D 7 = 0 := by unfold kN; rw [z 7 (by omega) (by omega)]; rfl
  refine ⟨⟨ih.1, ih.2.1, ih.2.2.2.1, zd.2.1.1⟩, ⟨⟨fun s _ hz => absurd rfl hz, fun q hq => by omega⟩, k8, ?_⟩, ⟨k7, z 9 (by omega) (by omega)⟩, fun m hm => by omega, fun u _ => ?_, fun u _ => rfl⟩
  · show runN _ (kN D 8) 0 0 = _
    rw [k8]; rfl
  · show runN _ (kN D 7) 0 0 = _
    rw [k7]; rfl
/-- the law's three arrays are made -/
def arS (T : St) (a : Nat) : St := nar (nar (uai (uai (uai (uai (uai (uai (nar T a 6) a 0 (-1)) a 1 (-1)) a 2 (-1)) a 3 (-1)) a 4 (-1)) a 5 (-1)) (a + 1) 3) (a + 2) 3
theorem ar_so {T : St} {a k : Nat} (h0 : ¬ k = a) (h1 : ¬ k = a + 1) (h2 : ¬ k = a + 2) : SameO T (arS T a) k := by
  unfold arS
  exact ((((((((SameO.nar h0).tr (SameO.uai _ h0)).tr (SameO.uai _ h0)).tr (SameO.uai _ h0)).tr (SameO.uai _ h0)).tr (SameO.uai _ h0)).tr (SameO.uai _ h0)).tr (SameO.nar h1)).tr (SameO.nar h2)
theorem ar_ln (T : St) (a : Nat) : ln (arS T a) a = 6 ∧ ln (arS T a) (a + 1) = 3 ∧ ln (arS T a) (a + 2) = 3 := by
  unfold arS
  refine ⟨?_, ?_, ?_⟩
  · rw [ln_nar, if_neg (by omega), ln_nar, if_neg (by omega)]
    show ln (nar T a 6) a = 6
    rw [ln_nar, if_pos rfl]
  · rw [ln_nar, if_neg (by omega), ln_nar, if_pos rfl]
  · rw [ln_nar, if_pos rfl]
theorem ar_av (T : St) (a : Nat) : Av (arS T a) a (fun _ => 0) (fun _ => 0) (fun _ => 0) := by
  unfold arS
  refine ⟨fun s hs => ?_, fun u hu => ?_, fun u hu => ?_⟩
  · rw [ai_nar, if_neg (by omega), ai_nar, if_neg (by omega), ai_uai, ai_uai, ai_uai, ai_uai, ai_uai, ai_uai]
    show _ = (-1 : Int32)
    rcases (by omega : s = 0 ∨ s = 1 ∨ s = 2 ∨ s = 3 ∨ s = 4 ∨ s = 5) with rfl | rfl | rfl | rfl | rfl | rfl <;> simp
  · rw [ai_nar, if_neg (by omega), ai_nar, if_pos rfl]
    rfl
  · rw [ai_nar, if_pos rfl]
    rfl
end Wl
theorem law_pure' {X : XS} (hX : X.2 ≤ 260) : ∃ (S9 : St) (n9 : Nat), f_L_law 100000 SE 0 X = some (1, S9, n9) := by
  obtain ⟨F, hFe⟩ : ∃ F, F = 100000 := ⟨_, rfl⟩
  have hF : 100000 ≤ F := by omega
  rw [← hFe]
  obtain ⟨T, a, h', f', Ns', Bs', D, e1, m1, rc, ih, zd, s20⟩ := l_load (F := F) (S := SI) (n := 197) (B := fun _ => 0) hX hF (init_rc (fun _ _ => 0) (fun _ _ => 0) (fun _ => 0)) init_vals.2.2.1
  obtain ⟨E1, n1, e2⟩ := er_all hF
  have rq := rc.rq
  have W := rq.2.2.2.1
  have h0 := ln_0 (B := fun _ => 0) ih zd
  have k7 : kN D 7 = 0 := h0.2.2.1.1
  have rq1 : RQ (arS T a) (a + 3) D (fun _ => 0) := rq.grow (by omega) (fun i hi => ar_so (by omega) (by omega) (by omega))
  obtain ⟨r, r1, r2, -⟩ := rq.2.2.2.c0.ru
  have as : AS (arS T a) (a + 3) a D := ⟨m1, Nat.le_refl _, ar_ln T a, ⟨r, by rw [(ar_so (T := T) (a := a) (k := 27) (by omega) (by omega) (by omega)).2.1]; exact r1, by rcases r2 with y | ⟨y1, y2⟩ <;> omega⟩, fun m j hm => by omega⟩
  have s20' : si (arS T a) 1 20 = 0 := by rw [(ar_so (T := T) (a := a) (k := 20) (by omega) (by omega) (by omega)).1]; exact s20
  have ls : LwS X (arS T a) (a + 3) a D (fun _ => 0) ((fun _ => 0), 0, 0) (fun _ => 0) (fun _ => 0) 0 0 := ⟨⟨rq1, as, h0.nl, s20'⟩, h0, ar_av T a⟩
  have lb : LB 0 ((fun _ => 0), 0, 0) (fun _ => 0) (fun _ => 0) 0 0 := ⟨Nat.le_refl _, Nat.zero_le _, fun u _ => ⟨Nat.zero_le _, Nat.zero_le _⟩, by show 0 + rm6 (fun _ => 0) = 25; rw [rm6_0]⟩
  obtain ⟨S2, n2, N2, B2, P2, us2, ab2, many2, ev2, g1, g2, g3⟩ := l_nine hX hF 9 0 3 _ _ _ _ _ _ _ _ _ (by omega) ls lb
  have g4 := l_end hF g1 2
  have b8 := g1.1.1.2.2.2.1.wb.n8.2
  have hp : ∀ s, s < 6 → P2.1 s ≤ 480 := fun s hs => by
    by_cases z : P2.1 s = 0
    · omega
    · have := (g1.2.1.2.1.1.1 s hs z).1
      omega
  have g5 := l_577 hF g1 (v6 := nI P2.2.2) hp 6 0 F (by omega) (by omega)
  obtain ⟨T9, g6⟩ := l_705 (P := P2) (a := a) (n := n2) (N := N2) (B := B2) hX hF g1.2.1 g2 (usX X) 0 F S2 FP.dconst0 0 (by omega) (by have := usX_b X; omega) ⟨g1.1.1, g1.1.2.2.2, g1.1.2.1.1, g1.1.2.1.2.1, ⟨g1.1.2.1.2.2.1.2.1, g1.1.2.1.2.2.1.2.2⟩, g1.2.2.2.1, g1.2.2.2.2⟩ (by omega) near_0
  refine ⟨T9, n2, ?_⟩
  have l6 : ∀ (S : St), ln (nar S a 6) a = 6 := fun S => by rw [ln_nar, if_pos rfl]
  have head : f_L_law F SE 0 X = f_L_law_L77 F 12 (arS T a) (a + 3) X 0 a (a + 1) (a + 2) 0 0 0 0 0 := by
    unfold f_L_law
    rw [lt_eq (nob SE 0), Nat.zero_add, lt_eq 1, init_eq, ob_some, lt_eq, lt_eq]
    dsimp only []
    rw [e1, ob_some]
    simp only [lt_eq]
    rw [if_neg (show ¬ (1 : Int32) = 0 by decide), e2, ob_some]
    simp only []
    rw [if_pos (show ¬ (1 : Int32) = 0 by decide)]
    have c0 : Int32.toNatClampNeg 0 = 0 := rfl
    have c1 : Int32.toNatClampNeg 1 = 1 := rfl
    have c2 : Int32.toNatClampNeg 2 = 2 := rfl
    have c3 : Int32.toNatClampNeg 3 = 3 := rfl
    have c4 : Int32.toNatClampNeg 4 = 4 := rfl
    have c5 : Int32.toNatClampNeg 5 = 5 := rfl
    rw [c0, c1, c2, c3, c4, c5]
    have k0 : ∀ {β : Type} (k : Nat) (y : Option β), k < 6 → cki (nI k) (ln (nar T a 6) a) y = y := fun k y hk => by rw [l6 T]; exact cki_nI (by omega) (by omega)
    rw [show cki 0 (ln (nar T a 6) a) _ = _ from k0 0 _ (by omega)]
    rw [show cki 1 (ln (uai (nar T a 6) a 0 (-1)) a) _ = _ from k0 1 _ (by omega)]
    rw [show cki 2 (ln (uai (uai (nar T a 6) a 0 (-1)) a 1 (-1)) a) _ = _ from k0 2 _ (by omega)]
    rw [show cki 3 (ln (uai (uai (uai (nar T a 6) a 0 (-1)) a 1 (-1)) a 2 (-1)) a) _ = _ from k0 3 _ (by omega)]
    rw [show cki 4 (ln (uai (uai (uai (uai (nar T a 6) a 0 (-1)) a 1 (-1)) a 2 (-1)) a 3 (-1)) a) _ = _ from k0 4 _ (by omega)]
    rw [show cki 5 (ln (uai (uai (uai (uai (uai (nar T a 6) a 0 (-1)) a 1 (-1)) a 2 (-1)) a 3 (-1)) a 4 (-1)) a) _ = _ from k0 5 _ (by omega)]
    rfl
  rw [head]
  have g3' : f_L_law_L77 F 12 (arS T a) (a + 3) X 0 a (a + 1) (a + 2) 0 0 0 0 0 = _ := g3
  rw [g3', g4]
  have g5' : f_L_law_L577 F F S2 n2 X 0 a (a + 1) (a + 2) (nI P2.2.2) 0 = _ := g5
  rw [g5']
  exact g6
