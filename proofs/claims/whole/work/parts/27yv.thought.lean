/-! the model's days in thought -/
def LvT (S T : St) : Prop := Rst S T ∧ ai T 206 = ai S 206 ∧ ThX S T
theorem LvT.rf (S : St) : LvT S S := ⟨Rst.rf S, rfl, ThX.rf S⟩
theorem LvT.tr {S T U : St} (h : LvT S T) (g : LvT T U) : LvT S U := ⟨h.1.tr g.1, g.2.1.trans h.2.1, h.2.2.tr g.2.2⟩
theorem LvM.t {S T : St} (h : LvM S T) : LvT S T := ⟨h.1, h.2.1, h.2.2.2.2⟩
theorem LvT.fx {S T : St} (h : LvT S T) (x : FxF S) : FxF T := h.1.1.fx x
theorem LvT.ui {S : St} {f : Nat} (v : Int32) (h : f = 1021 ∨ f = 1022) : LvT S (ui S f 197 v) := ⟨⟨MFr.ui v (by omega), rfl, rfl, rfl, by rw [si_ui, if_neg (by omega)], by rw [si_ui, if_neg (by omega)], by rw [si_ui, if_neg (by omega)]⟩, rfl, fun g i a => by rw [si_ui, if_neg (fun z => a (Or.inl (by rw [z.1, z.2]; rcases h with h | h <;> rw [h] <;> decide)))], fun _ _ _ => rfl⟩
theorem ui_ui (S : St) (f i : Nat) (v w : Int32) : ui (ui S f i v) f i w = ui S f i w := by
  have : up2 (up2 S.1 f i v) f i w = up2 S.1 f i w := by
    funext f' i'
    unfold up2
    by_cases z : f' = f ∧ i' = i
    · rw [if_pos z, if_pos z]
    · rw [if_neg z, if_neg z, if_neg z]
  unfold ui
  show (up2 (up2 S.1 f i v) f i w, S.2) = _
  rw [this]
/-- the sum of a reference's entry and its class's days -/
def ageN (a : Nat → Int32) (m u : Nat) : Nat := kN a (1173 + 3 * (10 * m + u)) + kN a (11 + 9 * clK a m u)
def ageP (a : Nat → Int32) (g m x : Nat) : Prop := ∀ m' u, m' < kN a 7 → u < kN a 4 → (m' < m ∨ (m' = m ∧ u < x)) → stN a m' u = 0 → ¬ a (11 + 9 * clK a m' u) = -1 → kN a 2 < ageN a m' u → g ≤ ageN a m' u
section Ag
variable {F : Nat} {S : St} {B : Nat → Int32}
theorem m_layAging (hx : FxF S) (w : WB (ai S 198) B) (hF : 1000 ≤ F) : ∃ g, f_X11_layAging F S 197 = some (ui S 1022 197 (nI g)) ∧ g < 2 ^ 31 ∧ ageP (ai S 198) g (kN (ai S 198) 7) 0 := by
  have b2 := w.n2.2
  have b3 := w.n3.2
  have b4 := w.n4.2
  have b7 := w.n7.2
  obtain ⟨a, ha⟩ : ∃ a, a = ai S 198 := ⟨_, rfl⟩
  rw [← ha] at w b2 b3 b4 b7
  rw [← ha]
  have E : ∀ g, ai (ui S 1022 197 (nI g)) 198 = a := fun g => ha.symm
  have X : ∀ g, FxF (ui S 1022 197 (nI g)) := fun g => (LvT.ui (S := S) (nI g) (Or.inr rfl)).fx hx
  have row : ∀ (m : Nat) (k9 : St → Nat → Int32 → Option St), m < kN a 7 → ∀ d x fu g, x + d = kN a 4 → d < fu → g < 2 ^ 31 → ageP a g m x → ∃ g', f_X11_layAging_L28 F k9 fu (ui S 1022 197 (nI g)) 197 (nI m) (nI (1171 + 3 * (10 * m + x))) (nI x) = k9 (ui S 1022 197 (nI g')) 197 (nI (m + 1)) ∧ g' < 2 ^ 31 ∧ ageP a g' (m + 1) 0 := by
    intro m k9 hm d
    induction d with
    | zero =>
      intro x fu g hk hfu m1 m2
      obtain ⟨fu, rfl⟩ : ∃ f', fu = f' + 1 := ⟨fu - 1, by omega⟩
      have : x = kN a 4 := by omega
      subst this
      refine ⟨g, ?_, m1, fun m' u h1 h2 h3 => m2 m' u h1 h2 (by omega)⟩
      unfold f_X11_layAging_L28
      rw [(X g).r1001_197, ob_some, (X g).l198, show (4 : Int32) = nI 4 from rfl, cki_nI (by omega) (by omega), nI_clamp (by omega), E, w.n4.1, if_pos (nI_le (Nat.le_refl _) (by omega)), nI_1]
      simp only [lt_eq]
    | succ d ih =>
      intro x fu g hk hfu m1 m2
      obtain ⟨fu, rfl⟩ : ∃ f', fu = f' + 1 := ⟨fu - 1, by omega⟩
      obtain ⟨c1, c2⟩ := clK_lt w (m := m) (u := x) hm (by omega)
      obtain ⟨c, hc⟩ : ∃ c, c = clK a m x := ⟨_, rfl⟩
      rw [← hc] at c1 c2
      obtain ⟨q1, -, -⟩ := w.wC _ c1
      have ew := (w.wR m x hm (by omega)).2.2.1
      have ew2 := ew.2
      have hage : ageN a m x = kN a (1173 + 3 * (10 * m + x)) + kN a (11 + 9 * c) := by unfold ageN; rw [← hc]
      have nextP : ∀ g', g' ≤ g → (stN a m x = 0 → ¬ a (11 + 9 * c) = -1 → kN a 2 < ageN a m x → g' ≤ ageN a m x) → ageP a g' m (x + 1) := by
        intro g' h1 h2 m' u p1 p2 p3 p4 p5 p6
        by_cases z : m' = m ∧ u = x
        · obtain ⟨z1, z2⟩ := z
          subst z1 z2
          exact h2 p4 (by rw [hc]; exact p5) p6
        · have := m2 m' u p1 p2 (by omega) p4 p5 p6
          omega
      have last : ∀ T : St, f_X11_layAging_L119 F k9 (fun a0 a1 a2 a3 a4 => f_X11_layAging_L28 F k9 fu a0 a1 a2 a3 a4) T 197 (nI m) (nI (1171 + 3 * (10 * m + x))) (nI x) = f_X11_layAging_L28 F k9 fu T 197 (nI m) (nI (1171 + 3 * (10 * m + (x + 1)))) (nI (x + 1)) := fun T => by
        unfold f_X11_layAging_L119
        rw [show (3 : Int32) = nI 3 from rfl, show (1 : Int32) = nI 1 from rfl, nI_add, nI_add, show 1171 + 3 * (10 * m + x) + 3 = 1171 + 3 * (10 * m + (x + 1)) by omega]
        simp only [lt_eq]
      -- nothing is laid down
      have skip : (stN a m x = 0 → ¬ a (11 + 9 * c) = -1 → kN a 2 < ageN a m x → g ≤ ageN a m x) → ∃ g', f_X11_layAging_L119 F k9 (fun a0 a1 a2 a3 a4 => f_X11_layAging_L28 F k9 fu a0 a1 a2 a3 a4) (ui S 1022 197 (nI g)) 197 (nI m) (nI (1171 + 3 * (10 * m + x))) (nI x) = k9 (ui S 1022 197 (nI g')) 197 (nI (m + 1)) ∧ g' < 2 ^ 31 ∧ ageP a g' (m + 1) 0 := by
        intro h2
        obtain ⟨g', r1, r2⟩ := ih (x + 1) fu g (by omega) (by omega) m1 (nextP g (Nat.le_refl _) h2)
        exact ⟨g', by rw [last, r1], r2⟩
      have e0 : a (1171 + 3 * (10 * m + x)) = stN a m x := rfl
      have e1 : a (1172 + 3 * (10 * m + x)) = nI c := c2
      unfold f_X11_layAging_L28
      rw [(X g).r1001_197, ob_some, (X g).l198, show (4 : Int32) = nI 4 from rfl, cki_nI (by omega) (by omega), nI_clamp (by omega), E, w.n4.1, if_neg (nI_ge (by omega) (by omega)), ob_some, (X g).l198, cki_nI (by omega) (by omega), nI_clamp (by omega), E, e0]
      by_cases z : stN a m x = 0
      rotate_left
      · obtain ⟨g', r1, r2⟩ := skip (fun y => absurd y z)
        refine ⟨g', ?_, r2⟩
        rw [if_pos z, ← r1]
        unfold f_X11_layAging_L72
        rw [(X g).r1001_197, ob_some, (X g).l198, show (2 : Int32) = nI 2 from rfl, nI_add, show 1171 + 3 * (10 * m + x) + 2 = 1173 + 3 * (10 * m + x) by omega, cki_nI (by omega) (by omega), lt_eq, if_pos rfl]
      rw [if_neg (fun y => y z), ob_some, ob_some, (X g).l198, show (1 : Int32) = nI 1 from rfl, nI_add, show 1171 + 3 * (10 * m + x) + 1 = 1172 + 3 * (10 * m + x) by omega, cki_nI (by omega) (by omega), nI_clamp (by omega), E, e1, show (11 : Int32) = nI 11 from rfl, show (9 : Int32) = nI 9 from rfl, nI_mul, nI_add, Int32.add_zero, cki_nI (by omega) (by omega), nI_clamp (by omega)]
      unfold f_X11_layAging_L72
      rw [(X g).r1001_197, ob_some, (X g).l198, show (2 : Int32) = nI 2 from rfl, nI_add, show 1171 + 3 * (10 * m + x) + 2 = 1173 + 3 * (10 * m + x) by omega, cki_nI (by omega) (by omega), nI_clamp (by omega), E, ew.1]
      simp only [lt_eq]
      by_cases z1 : a (11 + 9 * c) = -1
      · obtain ⟨g', r1, r2⟩ := skip (fun _ y => absurd z1 y)
        refine ⟨g', ?_, r2⟩
        rw [if_pos z1, ← r1]
      obtain ⟨y1, y2⟩ := q1.resolve_left z1
      have y12 := y1.2
      rw [if_neg z1, ob_some, (X g).l198, cki_nI (by omega) (by omega), nI_clamp (by omega), E, w.n2.1, y1.1, nI_add, ← hage]
      by_cases z2 : ageN a m x ≤ kN a 2
      · obtain ⟨g', r1, r2⟩ := skip (fun _ _ y => by omega)
        refine ⟨g', ?_, r2⟩
        rw [if_pos (nI_le z2 (by omega)), ← r1]
      rw [if_neg (fun y => z2 ((nI_leI (by omega) (by omega)).mp y)), show si (ui S 1022 197 (nI g)) 1022 197 = nI g from by rw [si_ui, if_pos ⟨rfl, rfl⟩]]
      by_cases z3 : g ≤ ageN a m x
      · obtain ⟨g', r1, r2⟩ := skip (fun _ _ _ => z3)
        refine ⟨g', ?_, r2⟩
        rw [if_pos (nI_le z3 (by omega)), ← r1]
      · obtain ⟨g', r1, r2⟩ := ih (x + 1) fu (ageN a m x) (by omega) (by omega) (by omega) (nextP _ (by omega) (fun _ _ _ => Nat.le_refl _))
        refine ⟨g', ?_, r2⟩
        rw [if_neg (fun y => z3 ((nI_leI (by omega) (by omega)).mp y)), ui_ui, last, r1]
  have loop : ∀ d m fu g, m + d = kN a 7 → d < fu → g < 2 ^ 31 → ageP a g m 0 → ∃ g', f_X11_layAging_L9 F fu (ui S 1022 197 (nI g)) 197 (nI m) = some (ui S 1022 197 (nI g')) ∧ g' < 2 ^ 31 ∧ ageP a g' (kN a 7) 0 := by
    intro d
    induction d with
    | zero =>
      intro m fu g hk hfu m1 m2
      obtain ⟨fu, rfl⟩ : ∃ f', fu = f' + 1 := ⟨fu - 1, by omega⟩
      have : m = kN a 7 := by omega
      subst this
      refine ⟨g, ?_, m1, m2⟩
      unfold f_X11_layAging_L9
      rw [(X g).r1001_197, ob_some, (X g).l198, show (7 : Int32) = nI 7 from rfl, cki_nI (by omega) (by omega), nI_clamp (by omega), E, w.n7.1, if_pos (nI_le (Nat.le_refl _) (by omega))]
    | succ d ih =>
      intro m fu g hk hfu m1 m2
      obtain ⟨fu, rfl⟩ : ∃ f', fu = f' + 1 := ⟨fu - 1, by omega⟩
      obtain ⟨g1, t1, t2, t3⟩ := row m (fun a0 a1 a2 => f_X11_layAging_L9 F fu a0 a1 a2) (by omega) (kN a 4) 0 F g (by omega) (by omega) m1 m2
      obtain ⟨g', r1, r2⟩ := ih (m + 1) fu g1 (by omega) (by omega) t2 t3
      refine ⟨g', ?_, r2⟩
      rw [← r1, ← t1]
      conv => lhs; unfold f_X11_layAging_L9
      have r0 : f_X11_refAt F (ui S 1022 197 (nI g)) (nI m) 0 = some (nI (1171 + 3 * (10 * m + 0)), ui S 1022 197 (nI g)) := m_refAt F _ m 0
      rw [(X g).r1001_197, ob_some, (X g).l198, show (7 : Int32) = nI 7 from rfl, cki_nI (by omega) (by omega), nI_clamp (by omega), E, w.n7.1, if_neg (nI_ge (by omega) (by omega)), r0, ob_some]
      simp only [lt_eq]
      rfl
  obtain ⟨g', r1, r2, r3⟩ := loop (kN a 7) 0 F 2147483647 (by omega) (by omega) (by omega) (fun m' u _ _ h => by omega)
  refine ⟨g', ?_, r2, r3⟩
  unfold f_X11_layAging
  rw [← r1, lt_eq]
  rfl
end Ag
/-- what the model has noted of quiet days is right for the days after d -/
def TqI (N : Nat → Int32) (q gI : Int32) (d : Nat) : Prop := q = 0 ∨ (q = 1 ∧ ∃ g, gI = nI g ∧ g < 2 ^ 31 ∧ ∀ D, d < D → D < g → ∀ m u, m < kN N 7 → u < kN N 4 → ¬ dueP N m u D)
section Lt
variable {F : Nat} {S : St} {B : Nat → Int32}
theorem TqI.cong {N M : Nat → Int32} {X : Nat → Prop} {q gI : Int32} {d : Nat} (t : TqI N q gI d) (h : EqX X N M) (hX : ∀ k, X k → k = 2 ∨ xD k ∨ xI k) (w : WB N B) {d' : Nat} (hd : d ≤ d') : TqI M q gI d' := by
  have nX : ∀ k, (k = 7 ∨ k = 4) → ¬ X k := fun k h1 z => by
    have := hX k z
    unfold xD xI at this
    omega
  rcases t with t | ⟨t1, g, t2, t3, t4⟩
  · exact Or.inl t
  · refine Or.inr ⟨t1, g, t2, t3, fun D h1 h2 m u hm hu y => ?_⟩
    rw [h.kn (by omega) (by omega) (nX _ (by omega))] at hm hu
    exact t4 D (by omega) h2 m u hm hu ((dueP_c h hX w hm hu).mp y)
theorem m_leaveT (hx : FxF S) (ht : si S 1005 197 = 1) (hB : ai S 200 = B) (w0 : WB (ai S 198) B) {D : Nat} (hD : kN (ai S 198) 2 = D + 1) (hW : lvW lg0 B (ai S 198) (D + 1)) (hq : TqI (ai S 198) (si S 1021 197) (si S 1022 197) D) (hF : 1000 ≤ F) :
    ∃ T, f_X11_leaveInThought F S 197 = some T ∧ LvT S T ∧ ai T 198 = lvN lg0 B (ai S 198) (D + 1) (kN (ai S 198) 7) ∧ TqI (lvN lg0 B (ai S 198) (D + 1) (kN (ai S 198) 7)) (si T 1021 197) (si T 1022 197) (D + 1) := by
  have b2 := w0.n2.2
  have b4 := w0.n4.2
  have b7 := w0.n7.2
  have b8 := w0.n8.2
  obtain ⟨N0, hN⟩ : ∃ N0, N0 = ai S 198 := ⟨_, rfl⟩
  rw [← hN] at w0 hD hW hq b2 b4 b7 b8
  rw [← hN]
  have hT : isTh lg0 1 := Or.inr ⟨rfl, rfl⟩
  -- the leaving is looked through
  have full : ∃ T, f_X11_leaveInThought_L21 F S 197 = some T ∧ LvT S T ∧ ai T 198 = lvN lg0 B N0 (D + 1) (kN N0 7) ∧ TqI (lvN lg0 B N0 (D + 1) (kN N0 7)) (si T 1021 197) (si T 1022 197) (D + 1) := by
    obtain ⟨T1, t1, t2, t3⟩ := m_leaveAll (F := F) (S := S) (B := B) (L := lg0) (th := 1) hT hx ht hB (by rw [← hN]; exact w0) (D := D + 1) (by rw [← hN]; exact hD) (by rw [← hN]; exact hW) hF
    rw [← hN] at t1 t3
    have s := lvS_all (B := B) (D := D + 1) isLg_0 b8 b4 b7 (kN N0 7) (Nat.le_refl _)
    have wE : WB (lvN lg0 B N0 (D + 1) (kN N0 7)) B := by
      by_cases z : kN N0 7 = 0
      · rw [z]; exact w0
      · obtain ⟨m, hm⟩ : ∃ m, kN N0 7 = m + 1 := ⟨kN N0 7 - 1, by omega⟩
        rw [hm, lvN_s]
        exact (hW m (kN N0 4) (by omega) (Nat.le_refl _)).wb
    -- once it is known whether some left
    have rest : ∀ s0 : Int32, (s0 = 0 ∨ s0 = 1) → ∃ g, f_X11_leaveInThought_L34 F T1 197 s0 197 = some (ui (ui T1 1021 197 s0) 1022 197 (nI g)) ∧ g < 2 ^ 31 ∧ ageP (lvN lg0 B N0 (D + 1) (kN N0 7)) g (kN (lvN lg0 B N0 (D + 1) (kN N0 7)) 7) 0 := by
      intro s0 hs0
      have x2 := (t2.t.tr (LvT.ui (S := T1) s0 (Or.inl rfl))).fx hx
      obtain ⟨g, r1, r2, r3⟩ := m_layAging (F := F) (S := ui T1 1021 197 s0) (B := B) x2 (by rw [ai_ui, t3]; exact wE) hF
      rw [ai_ui, t3] at r3
      refine ⟨g, ?_, r2, r3⟩
      unfold f_X11_leaveInThought_L34
      rw [ck_t hs0, lt_eq, r1, ob_some]
    unfold f_X11_leaveInThought_L21
    rw [t1, ob_some]
    simp only [lt_eq]
    by_cases z : anyP N0 (D + 1) (kN N0 7) 0
    · obtain ⟨g, r1, r2, r3⟩ := rest 0 (Or.inl rfl)
      refine ⟨ui (ui T1 1021 197 0) 1022 197 (nI g), ?_, (t2.t.tr (LvT.ui (S := T1) 0 (Or.inl rfl))).tr (LvT.ui _ (Or.inr rfl)), t3, Or.inl ?_⟩
      · rw [pI_t z, if_pos (show ¬ (1 : Int32) = 0 by decide)]
        exact r1
      · rw [si_ui, if_neg (by omega), si_ui, if_pos ⟨rfl, rfl⟩]
    · obtain ⟨g, r1, r2, r3⟩ := rest 1 (Or.inr rfl)
      have nd : ∀ m u, m < kN N0 7 → u < kN N0 4 → ¬ dueP N0 m u (D + 1) := fun m u hm hu y => z ⟨m, u, hm, hu, by omega, y⟩
      have none : lvN lg0 B N0 (D + 1) (kN N0 7) = N0 := lvN_none nd _ (Nat.le_refl _)
      rw [none] at r3
      refine ⟨ui (ui T1 1021 197 1) 1022 197 (nI g), ?_, (t2.t.tr (LvT.ui (S := T1) 1 (Or.inl rfl))).tr (LvT.ui _ (Or.inr rfl)), t3, Or.inr ⟨?_, g, ?_, r2, ?_⟩⟩
      · rw [pI_f z, if_neg (fun y => y rfl)]
        exact r1
      · rw [si_ui, if_neg (by omega), si_ui, if_pos ⟨rfl, rfl⟩]
      · rw [si_ui, if_pos ⟨rfl, rfl⟩]
      · rw [none]
        intro D' h1 h2 m u hm hu y
        have h3 := r3 m u hm hu (by omega) y.1 y.2.1
        have y4 := y.2.2.2
        have e : ageN N0 m u = kN N0 (1173 + 3 * (10 * m + u)) + kN N0 (11 + 9 * clK N0 m u) := rfl
        by_cases q : kN N0 2 < ageN N0 m u
        · have := h3 q; omega
        · exact nd m u hm hu ⟨y.1, y.2.1, y.2.2.1, by omega⟩
  unfold f_X11_leaveInThought
  by_cases z : si S 1021 197 = 0
  · rw [if_pos z]; exact full
  · rw [if_neg z, hx.r1001_197, ob_some, hx.l198, show (2 : Int32) = nI 2 from rfl, cki_nI (by omega) (by omega), nI_clamp (by omega), ← hN, w0.n2.1, hD]
    obtain ⟨z1, g, g1, g2, g3⟩ := hq.resolve_left z
    rw [g1]
    by_cases y : g ≤ D + 1
    · rw [if_pos (nI_le y (by omega))]; exact full
    · rw [if_neg (fun q => y ((nI_leI (by omega) (by omega)).mp q))]
      have none : lvN lg0 B N0 (D + 1) (kN N0 7) = N0 := lvN_none (fun m u hm hu => g3 (D + 1) (by omega) (by omega) m u hm hu) _ (Nat.le_refl _)
      rw [none]
      exact ⟨S, rfl, LvT.rf S, hN.symm, Or.inr ⟨z1, g, g1, g2, fun D' h1 h2 => g3 D' (by omega) h2⟩⟩
theorem m_passDayT (hx : FxF S) (ht : si S 1005 197 = 1) (hB : ai S 200 = B) (w : WB (ai S 198) B) (hd : kN (ai S 198) 2 < 22000) (hW : lvW lg0 B (dayN (ai S 198)) (kN (ai S 198) 2 + 1)) (hq : TqI (ai S 198) (si S 1021 197) (si S 1022 197) (kN (ai S 198) 2)) (hF : 1000 ≤ F) :
    ∃ T, f_X11_passDay F S 197 = some (nI (dyN lg0 B (ai S 198)).2, T) ∧ LvT S T ∧ ai T 198 = (dyN lg0 B (ai S 198)).1 ∧ TqI (dyN lg0 B (ai S 198)).1 (si T 1021 197) (si T 1022 197) (kN (ai S 198) 2 + 1) := by
  obtain ⟨N, hN⟩ : ∃ N, N = ai S 198 := ⟨_, rfl⟩
  rw [← hN] at w hd hW hq
  rw [← hN]
  have b2 := w.n2.2
  have b4 := w.n4.2
  have b7 := w.n7.2
  have b8 := w.n8.2
  obtain ⟨S1, hS1⟩ : ∃ S1, S1 = uai S 198 2 (nI (kN N 2 + 1)) := ⟨_, rfl⟩
  have F1 : Net S S1 := by rw [hS1]; exact Net.uai _ _
  have hx1 := F1.lv.fx hx
  have a1 : ai S1 198 = dayN N := by rw [hS1, ai_uaiE, ← hN]; rfl
  have ht1 : si S1 1005 197 = 1 := (F1.si _ _).trans ht
  have aB : ai S1 200 = B := (F1.row (by omega)).trans hB
  have k7 : kN (dayN N) 7 = kN N 7 := dayN_k (by omega)
  have k8 : kN (dayN N) 8 = kN N 8 := dayN_k (by omega)
  have k4 : kN (dayN N) 4 = kN N 4 := dayN_k (by omega)
  have k2 : kN (dayN N) 2 = kN N 2 + 1 := (dayN_2 hd).2
  have hT : isTh lg0 1 := Or.inr ⟨rfl, rfl⟩
  have wd := w.day hd
  have hq1 : TqI (dayN N) (si S1 1021 197) (si S1 1022 197) (kN N 2) := by
    rw [F1.si, F1.si]
    exact hq.cong (X := fun k => k = 2) (fun k _ _ z => dayN_n z) (fun k z => Or.inl z) w (Nat.le_refl _)
  obtain ⟨T1, t1, t2, t3, t4⟩ := m_leaveT (F := F) (S := S1) (B := B) hx1 ht1 aB (by rw [a1]; exact wd) (D := kN N 2) (by rw [a1, k2]) (by rw [a1]; exact hW) (by rw [a1]; exact hq1) hF
  rw [a1, k7] at t3 t4
  have s := lvS_all (N0 := dayN N) (B := B) (D := kN N 2 + 1) isLg_0 (by omega) (by omega) (by omega) (kN N 7) (by omega)
  have wE : WB (lvN lg0 B (dayN N) (kN N 2 + 1) (kN N 7)) B := by
    by_cases z : kN N 7 = 0
    · rw [z]; exact wd
    · obtain ⟨m, hm⟩ : ∃ m, kN N 7 = m + 1 := ⟨kN N 7 - 1, by omega⟩
      rw [hm, lvN_s]
      exact (hW m (kN (dayN N) 4) (by omega) (Nat.le_refl _)).wb
  have ht2 : si T1 1005 197 = 1 := (t2.1.1.2.2.1 1005 (by omega)).trans ht1
  obtain ⟨T2, r1, r2, r3⟩ := m_pass41 (F := F) (S := T1) (B := B) (L := lg0) (th := 1) hT (t2.fx hx1) ht2 (by rw [t3]; exact wE) hF
  rw [t3] at r1 r3
  refine ⟨T2, ?_, (F1.lv.t.tr t2).tr r2.lv.t, r3, ?_⟩
  · have e2 : ai S 198 2 + 1 = nI (kN N 2 + 1) := by rw [← hN, w.n2.1, nI_1]
    unfold f_X11_passDay
    rw [hx.r1001_197, ob_some, hx.l198, show (2 : Int32) = nI 2 from rfl, cki_nI (by omega) (by omega), cki_nI (by omega) (by omega), nI_clamp (by omega), e2, ← hS1]
    simp only [lt_eq]
    rw [ht1, if_pos (show ¬ (1 : Int32) = 0 by decide)]
    unfold f_X11_passDay_L28 f_X11_passDay_L29
    rw [ht1, if_neg (show ¬ (1 : Int32) = 0 by decide), t1, ob_some]
    unfold dyN
    exact r1
  · rw [r2.si, r2.si]
    unfold dyN
    exact t4.cong (X := xI) (fun k a b c => rdN_lo isLg_0 (by rw [s.kn (by omega) (by omega)]; omega) a b c) (fun k z => Or.inr (Or.inr z)) wE (Nat.le_refl _)
end Lt
