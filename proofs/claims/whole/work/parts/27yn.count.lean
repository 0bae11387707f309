/-! the model's counts of live references in classes -/
def ThX (S T : St) : Prop := (∀ f i, ¬ wkP f i → si T f i = si S f i) ∧ ∀ i, i ∉ wkA → ¬ i = 198 → ai T i = ai S i
theorem ThX.rf (S : St) : ThX S S := ⟨fun _ _ _ => rfl, fun _ _ _ => rfl⟩
theorem ThX.tr {S T U : St} (h : ThX S T) (g : ThX T U) : ThX S U := ⟨fun f i a => (g.1 f i a).trans (h.1 f i a), fun i a b => (g.2 i a b).trans (h.2 i a b)⟩
def LvM (S T : St) : Prop := Rst S T ∧ ai T 206 = ai S 206 ∧ si T 1021 197 = si S 1021 197 ∧ si T 1022 197 = si S 1022 197 ∧ ThX S T
theorem LvM.rf (S : St) : LvM S S := ⟨Rst.rf S, rfl, rfl, rfl, ThX.rf S⟩
theorem LvM.tr {S T U : St} (h : LvM S T) (g : LvM T U) : LvM S U := ⟨h.1.tr g.1, g.2.1.trans h.2.1, g.2.2.1.trans h.2.2.1, g.2.2.2.1.trans h.2.2.2.1, h.2.2.2.2.tr g.2.2.2.2⟩
theorem Net.lv {S T : St} (h : Net S T) : LvM S T := ⟨h.rst, h.row (by omega), h.si _ _, h.si _ _, fun f i _ => h.si f i, fun i _ b => h.row b⟩
theorem Sc.lv {S T : St} (h : Sc S T) : LvM S T := ⟨h.rst, h.2.2.2.2.1 206 (by omega) (by omega), h.2.2.2.2.2.1, h.2.2.2.2.2.2, fun f i a => h.1.2.1 f i a, fun i a _ => h.1.2.2.1 i a⟩
theorem ai_uaiE (S : St) (i k : Nat) (v : Int32) : ai (uai S i k v) i = upd (ai S i) k v := by
  funext z
  rw [ai_uai]
  unfold upd
  by_cases y : z = k
  · rw [if_pos ⟨rfl, y⟩, if_pos y]
  · rw [if_neg (fun q => y q.2), if_neg y]
theorem ai_uaiN {S : St} {i k j : Nat} (v : Int32) (h : ¬ j = i) : ai (uai S i k v) j = ai S j := by
  funext z
  rw [ai_uai, if_neg (fun q => h q.1)]
theorem LvM.uai {S : St} {i k : Nat} (v : Int32) (h : i = 204 ∨ i = 205) : LvM S (uai S i k v) := ⟨⟨MFr.uai v (by omega), ai_uaiN v (by omega), ai_uaiN v (by omega), ai_uaiN v (by omega), rfl, rfl, rfl⟩, ai_uaiN v (by omega), rfl, rfl, fun _ _ _ => rfl, fun j a _ => ai_uaiN v (fun z => a (by rw [z]; rcases h with h | h <;> rw [h] <;> decide))⟩
theorem LvM.fx {S T : St} (h : LvM S T) (x : FxF S) : FxF T := h.1.1.fx x
def lcN (a : Nat → Int32) (u c m : Nat) : Prop := stN a m u = 0 ∧ clN a m u = nI c
def vis (m x u : Nat) : Nat := if u < x then m + 1 else m
def Cn (R a : Nat → Int32) (m x : Nat) : Prop := ∀ u c, u < kN a 4 → c < 8 → R (8 * u + c) = nI (cntP (fun m' => m' < vis m x u ∧ lcN a u c m') (kN a 7))
section Cnt
variable {R a a' : Nat → Int32} {m x c c2 : Nat}
theorem vis_x (m x : Nat) : vis m x x = m := by unfold vis; rw [if_neg (by omega)]
theorem vis_x1 (m x : Nat) : vis m (x + 1) x = m + 1 := by unfold vis; rw [if_pos (by omega)]
theorem vis_n {m x u : Nat} (h : ¬ u = x) : vis m (x + 1) u = vis m x u := by
  unfold vis
  by_cases z : u < x
  · rw [if_pos z, if_pos (by omega)]
  · rw [if_neg z, if_neg (by omega)]
theorem Cn.row (h : Cn R a m (kN a 4)) : Cn R a (m + 1) 0 := by
  intro u c hu hc
  rw [show vis (m + 1) 0 u = vis m (kN a 4) u by unfold vis; rw [if_pos hu, if_neg (by omega)]]
  exact h u c hu hc
theorem Cn.skip (h : Cn R a m x) (hl : ¬ stN a m x = 0) : Cn R a m (x + 1) := by
  intro u c hu hc
  rw [h u c hu hc]
  refine congrArg nI (cntP_c (fun m' _ => ?_))
  by_cases z : u = x
  · subst z
    rw [vis_x, vis_x1]
    refine ⟨fun q => ⟨by omega, q.2⟩, fun q => ⟨?_, q.2⟩⟩
    by_cases y : m' = m
    · rw [y] at q; exact absurd q.2.1 hl
    · omega
  · rw [vis_n z]
theorem Cn.up (h : Cn R a m x) (hm : m < kN a 7) (hx : x < kN a 4) (hc : c < 8) (hl : stN a m x = 0) (hcl : clN a m x = nI c) : Cn (upd R (8 * x + c) (R (8 * x + c) + 1)) a m (x + 1) := by
  intro u d hu hd
  by_cases z : u = x
  · subst z
    by_cases y : d = c
    · subst y
      rw [upd_e, h u d hu hd, nI_1, vis_x1]
      refine congrArg nI (Eq.symm (cntP_del (q := m) hm ⟨by omega, hl, hcl⟩ (fun q => by rw [vis_x] at q; omega) (fun m' _ ne => ?_)))
      rw [vis_x]
      exact ⟨fun q => ⟨by omega, q.2⟩, fun q => ⟨by omega, q.2⟩⟩
    · rw [upd_n (by omega), h u d hu hd]
      refine congrArg nI (cntP_c (fun m' _ => ?_))
      rw [vis_x, vis_x1]
      refine ⟨fun q => ⟨by omega, q.2⟩, fun q => ⟨?_, q.2⟩⟩
      by_cases e : m' = m
      · rw [e] at q
        exact absurd ((nI_eq (by omega) (by omega)).mp (q.2.2.symm.trans hcl)) y
      · omega
  · rw [upd_n (by omega), h u d hu hd, vis_n z]
theorem Cn.ch (h : Cn R a m x) (k4 : kN a' 4 = kN a 4) (k7 : kN a' 7 = kN a 7) (e : ∀ m' u, m' < kN a 7 → u < kN a 4 → ¬ (m' = m ∧ u = x) → stN a' m' u = stN a m' u ∧ clN a' m' u = clN a m' u) : Cn R a' m x := by
  intro u d hu hd
  rw [k4] at hu
  rw [h u d hu hd, k7]
  refine congrArg nI (cntP_c (fun m' hm' => ?_))
  by_cases z : m' < vis m x u
  · have ne : ¬ (m' = m ∧ u = x) := fun q => by
      rw [q.1, q.2, vis_x] at z
      omega
    obtain ⟨e1, e2⟩ := e m' u hm' hu ne
    unfold lcN
    rw [e1, e2]
  · exact ⟨fun q => absurd q.1 z, fun q => absurd q.1 z⟩
/-- a live reference ends -/
theorem Cn.gone (h : Cn R a (kN a 7) 0) (hm : m < kN a 7) (hx : x < kN a 4) (hc : c < 8) (hl : stN a m x = 0) (hcl : clN a m x = nI c) (hl' : ¬ stN a' m x = 0) (k4 : kN a' 4 = kN a 4) (k7 : kN a' 7 = kN a 7) (e : ∀ m' u, m' < kN a 7 → u < kN a 4 → ¬ (m' = m ∧ u = x) → stN a' m' u = stN a m' u ∧ clN a' m' u = clN a m' u) : Cn (upd R (8 * x + c) (R (8 * x + c) - 1)) a' (kN a' 7) 0 := by
  intro u d hu hd
  rw [k4] at hu
  rw [k7]
  have v0 : ∀ u, vis (kN a 7) 0 u = kN a 7 := fun u => by unfold vis; rw [if_neg (by omega)]
  by_cases z : u = x ∧ d = c
  · obtain ⟨z1, z2⟩ := z
    subst z1 z2
    rw [upd_e, h u d hu hd, v0]
    have := cntP_del (P := fun m' => m' < kN a 7 ∧ lcN a u d m') (Q := fun m' => m' < kN a 7 ∧ lcN a' u d m') (q := m) hm ⟨hm, hl, hcl⟩ (fun q => hl' q.2.1) (fun m' hm' ne => by
      obtain ⟨e1, e2⟩ := e m' u hm' hu (fun q => ne q.1)
      unfold lcN
      rw [e1, e2])
    rw [this, show (1 : Int32) = nI 1 from rfl, nI_sub (by omega)]
    exact congrArg nI (by omega)
  · rw [upd_n (by omega), h u d hu hd, v0]
    refine congrArg nI (cntP_c (fun m' hm' => ?_))
    by_cases y : m' = m ∧ u = x
    · obtain ⟨y1, y2⟩ := y
      subst y1 y2
      unfold lcN
      refine ⟨fun q => absurd ((nI_eq (by omega) (by omega)).mp (q.2.2.symm.trans hcl)) (fun y => z ⟨rfl, y⟩), fun q => absurd q.2.1 hl'⟩
    · obtain ⟨e1, e2⟩ := e m' u hm' hu y
      unfold lcN
      rw [e1, e2]
/-- a live reference goes into another class -/
theorem Cn.move (h : Cn R a (kN a 7) 0) (hm : m < kN a 7) (hx : x < kN a 4) (hc : c < 8) (hc2 : c2 < 8) (hne : ¬ c = c2) (hl : stN a m x = 0) (hcl : clN a m x = nI c) (hl' : stN a' m x = 0) (hcl' : clN a' m x = nI c2) (k4 : kN a' 4 = kN a 4) (k7 : kN a' 7 = kN a 7) (e : ∀ m' u, m' < kN a 7 → u < kN a 4 → ¬ (m' = m ∧ u = x) → stN a' m' u = stN a m' u ∧ clN a' m' u = clN a m' u) : Cn (upd (upd R (8 * x + c) (R (8 * x + c) - 1)) (8 * x + c2) (upd R (8 * x + c) (R (8 * x + c) - 1) (8 * x + c2) + 1)) a' (kN a' 7) 0 := by
  intro u d hu hd
  rw [k4] at hu
  rw [k7]
  have v0 : ∀ u, vis (kN a 7) 0 u = kN a 7 := fun u => by unfold vis; rw [if_neg (by omega)]
  by_cases z : u = x ∧ d = c
  · obtain ⟨z1, z2⟩ := z
    subst z1 z2
    rw [upd_n (by omega), upd_e, h u d hu hd, v0]
    have := cntP_del (P := fun m' => m' < kN a 7 ∧ lcN a u d m') (Q := fun m' => m' < kN a 7 ∧ lcN a' u d m') (q := m) hm ⟨hm, hl, hcl⟩ (fun q => hne ((nI_eq (by omega) (by omega)).mp (q.2.2.symm.trans hcl'))) (fun m' hm' ne => by
      obtain ⟨e1, e2⟩ := e m' u hm' hu (fun q => ne q.1)
      unfold lcN
      rw [e1, e2])
    rw [this, show (1 : Int32) = nI 1 from rfl, nI_sub (by omega)]
    exact congrArg nI (by omega)
  by_cases z3 : u = x ∧ d = c2
  · obtain ⟨z1, z2⟩ := z3
    subst z1 z2
    rw [upd_e, upd_n (by omega), h u d hu hd, v0]
    have := cntP_del (Q := fun m' => m' < kN a 7 ∧ lcN a u d m') (P := fun m' => m' < kN a 7 ∧ lcN a' u d m') (q := m) hm ⟨hm, hl', hcl'⟩ (fun q => hne ((nI_eq (by omega) (by omega)).mp (hcl.symm.trans q.2.2))) (fun m' hm' ne => by
      obtain ⟨e1, e2⟩ := e m' u hm' hu (fun q => ne q.1)
      unfold lcN
      rw [e1, e2])
    rw [this, nI_1]
  · rw [upd_n (by omega), upd_n (by omega), h u d hu hd, v0]
    refine congrArg nI (cntP_c (fun m' hm' => ?_))
    by_cases y : m' = m ∧ u = x
    · obtain ⟨y1, y2⟩ := y
      subst y1 y2
      unfold lcN
      refine ⟨fun q => absurd ((nI_eq (by omega) (by omega)).mp (q.2.2.symm.trans hcl)) (fun y => z ⟨rfl, y⟩), fun q => absurd ((nI_eq (by omega) (by omega)).mp (q.2.2.symm.trans hcl')) (fun y => z3 ⟨rfl, y⟩)⟩
    · obtain ⟨e1, e2⟩ := e m' u hm' hu y
      unfold lcN
      rw [e1, e2]
theorem cntP_0f {P : Nat → Prop} {b : Nat} (h : ∀ k, k < b → ¬ P k) : cntP P b = 0 := cntP_z.mpr h
/-- those that are not visited yet -/
theorem cntP_split {P Q : Nat → Prop} : ∀ b, cntP P b = cntP (fun k => Q k ∧ P k) b + cntP (fun k => ¬ Q k ∧ P k) b := by
  intro b
  induction b with
  | zero => rfl
  | succ b ih =>
    rw [cntP_s, cntP_s, cntP_s, ih]
    by_cases q : Q b
    · by_cases p : P b
      · rw [pif_t p, pif_t (show Q b ∧ P b from ⟨q, p⟩), pif_f (show ¬ (¬ Q b ∧ P b) from fun y => y.1 q)]; omega
      · rw [pif_f p, pif_f (show ¬ (Q b ∧ P b) from fun y => p y.2), pif_f (show ¬ (¬ Q b ∧ P b) from fun y => p y.2)]; omega
    · by_cases p : P b
      · rw [pif_t p, pif_f (show ¬ (Q b ∧ P b) from fun y => q y.1), pif_t (show ¬ Q b ∧ P b from ⟨q, p⟩)]; omega
      · rw [pif_f p, pif_f (show ¬ (Q b ∧ P b) from fun y => p y.2), pif_f (show ¬ (¬ Q b ∧ P b) from fun y => p y.2)]; omega
end Cnt
section Mcl
variable {F : Nat} {S : St} {B : Nat → Int32}
theorem m_countLives (hx : FxF S) (w : WB (ai S 198) B) (hF : 1000 ≤ F) : ∃ T, f_X11_countLives F S 197 = some T ∧ LvM S T ∧ ai T 198 = ai S 198 ∧ Cn (ai T 204) (ai S 198) (kN (ai S 198) 7) 0 ∧ Cn (ai T 205) (ai S 198) 0 0 := by
  have b3 := w.n3.2
  have b4 := w.n4.2
  have b7 := w.n7.2
  obtain ⟨a, ha⟩ : ∃ a, a = ai S 198 := ⟨_, rfl⟩
  rw [← ha] at w b3 b4 b7
  rw [← ha]
  have zero : ∀ d k fu T, k + d = 80 → d < fu → LvM S T → ai T 198 = a → (∀ j, j < k → ai T 204 j = 0 ∧ ai T 205 j = 0) → ∃ T', f_X11_countLives_L2 F fu T 197 (nI k) = f_X11_countLives_L30 F F T' 197 0 ∧ LvM S T' ∧ ai T' 198 = a ∧ ∀ j, j < 80 → ai T' 204 j = 0 ∧ ai T' 205 j = 0 := by
    intro d
    induction d with
    | zero =>
      intro k fu T hk hfu m1 m2 m3
      obtain ⟨fu, rfl⟩ : ∃ f', fu = f' + 1 := ⟨fu - 1, by omega⟩
      have : k = 80 := by omega
      subst this
      refine ⟨T, ?_, m1, m2, m3⟩
      unfold f_X11_countLives_L2
      rw [if_pos (by decide)]
    | succ d ih =>
      intro k fu T hk hfu m1 m2 m3
      obtain ⟨fu, rfl⟩ : ∃ f', fu = f' + 1 := ⟨fu - 1, by omega⟩
      have hxT := m1.fx hx
      have F1 : LvM T (uai T 204 k 0) := LvM.uai 0 (Or.inl rfl)
      have F2 : LvM (uai T 204 k 0) (uai (uai T 204 k 0) 205 k 0) := LvM.uai 0 (Or.inr rfl)
      have hx1 := F1.fx hxT
      obtain ⟨T', t1, t2⟩ := ih (k + 1) fu (uai (uai T 204 k 0) 205 k 0) (by omega) (by omega) ((m1.tr F1).tr F2) (by rw [ai_uaiN _ (by omega), ai_uaiN _ (by omega)]; exact m2) (fun j hj => by
        rw [ai_uaiN (i := 205) (j := 204) _ (by omega), ai_uaiE, ai_uaiE, ai_uaiN (i := 204) (j := 205) _ (by omega)]
        by_cases z : j = k
        · rw [z, upd_e, upd_e]; exact ⟨rfl, rfl⟩
        · rw [upd_n z, upd_n z]; exact m3 j (by omega))
      refine ⟨T', ?_, t2⟩
      rw [← t1]
      conv => lhs; unfold f_X11_countLives_L2
      rw [show (80 : Int32) = nI 80 from rfl, if_neg (nI_ge (by omega) (by omega)), hxT.r1019_197, ob_some, hxT.l204, cki_nI (by omega) (by omega), nI_clamp (by omega)]
      simp only [lt_eq]
      rw [hx1.r1020_197, ob_some, hx1.l205, cki_nI (by omega) (by omega), nI_1]
  have row : ∀ (m : Nat) (k30 : St → Nat → Int32 → Option St), m < kN a 7 → ∀ d x fu T, x + d = kN a 4 → d < fu → LvM S T → ai T 198 = a → Cn (ai T 204) a m x → (∀ j, j < 80 → ai T 205 j = 0) → ∃ T', f_X11_countLives_L49 F k30 fu T 197 (nI m) (nI (1171 + 3 * (10 * m + x))) (nI x) = k30 T' 197 (nI (m + 1)) ∧ LvM S T' ∧ ai T' 198 = a ∧ Cn (ai T' 204) a (m + 1) 0 ∧ ∀ j, j < 80 → ai T' 205 j = 0 := by
    intro m k30 hm d
    induction d with
    | zero =>
      intro x fu T hk hfu m1 m2 m3 m4
      obtain ⟨fu, rfl⟩ : ∃ f', fu = f' + 1 := ⟨fu - 1, by omega⟩
      have hxT := m1.fx hx
      have : x = kN a 4 := by omega
      subst this
      refine ⟨T, ?_, m1, m2, m3.row, m4⟩
      unfold f_X11_countLives_L49
      rw [hxT.r1001_197, ob_some, hxT.l198, show (4 : Int32) = nI 4 from rfl, cki_nI (by omega) (by omega), nI_clamp (by omega), m2, w.n4.1, if_pos (nI_le (Nat.le_refl _) (by omega)), nI_1]
      simp only [lt_eq]
    | succ d ih =>
      intro x fu T hk hfu m1 m2 m3 m4
      obtain ⟨fu, rfl⟩ : ∃ f', fu = f' + 1 := ⟨fu - 1, by omega⟩
      have hxT := m1.fx hx
      obtain ⟨c1, c2⟩ := clK_lt w (m := m) (u := x) hm (by omega)
      obtain ⟨c, hc⟩ : ∃ c, c = clK a m x := ⟨_, rfl⟩
      rw [← hc] at c1 c2
      have e0 : ai T 198 (1171 + 3 * (10 * m + x)) = stN a m x := by rw [m2]; rfl
      have e1 : ai T 198 (1172 + 3 * (10 * m + x)) = nI c := by rw [m2]; exact c2
      unfold f_X11_countLives_L49
      rw [hxT.r1001_197, ob_some, hxT.l198, show (4 : Int32) = nI 4 from rfl, cki_nI (by omega) (by omega), nI_clamp (by omega), m2, w.n4.1, if_neg (nI_ge (by omega) (by omega)), ob_some, hxT.l198, cki_nI (by omega) (by omega), nI_clamp (by omega), e0]
      by_cases z : stN a m x = 0
      · have F1 : LvM T (uai T 204 (8 * x + c) (ai T 204 (8 * x + c) + 1)) := LvM.uai _ (Or.inl rfl)
        obtain ⟨T', t1, t2⟩ := ih (x + 1) fu _ (by omega) (by omega) (m1.tr F1) (by rw [ai_uaiN _ (by omega)]; exact m2) (by rw [ai_uaiE]; exact m3.up hm (by omega) (by omega) z c2) (by rw [ai_uaiN _ (by omega)]; exact m4)
        refine ⟨T', ?_, t2⟩
        rw [← t1, if_neg (fun y => y z), hxT.r1019_197, ob_some, ob_some, hxT.l198, show (1 : Int32) = nI 1 from rfl, nI_add, show 1171 + 3 * (10 * m + x) + 1 = 1172 + 3 * (10 * m + x) by omega, cki_nI (by omega) (by omega), nI_clamp (by omega), e1, show (8 : Int32) = nI 8 from rfl, nI_mul, nI_add, hxT.l204, cki_nI (by omega) (by omega), cki_nI (by omega) (by omega), nI_clamp (by omega)]
        simp only [lt_eq]
        unfold f_X11_countLives_L90
        rw [show (3 : Int32) = nI 3 from rfl, show (1 : Int32) = nI 1 from rfl, nI_add, nI_add, show 1171 + 3 * (10 * m + x) + 3 = 1171 + 3 * (10 * m + (x + 1)) by omega]
        simp only [lt_eq]
      · obtain ⟨T', t1, t2⟩ := ih (x + 1) fu T (by omega) (by omega) m1 m2 (m3.skip z) m4
        refine ⟨T', ?_, t2⟩
        rw [← t1, if_pos z]
        unfold f_X11_countLives_L90
        rw [show (3 : Int32) = nI 3 from rfl, show (1 : Int32) = nI 1 from rfl, nI_add, nI_add, show 1171 + 3 * (10 * m + x) + 3 = 1171 + 3 * (10 * m + (x + 1)) by omega]
        simp only [lt_eq]
  have loop : ∀ d m fu T, m + d = kN a 7 → d < fu → LvM S T → ai T 198 = a → Cn (ai T 204) a m 0 → (∀ j, j < 80 → ai T 205 j = 0) → ∃ T', f_X11_countLives_L30 F fu T 197 (nI m) = some T' ∧ LvM S T' ∧ ai T' 198 = a ∧ Cn (ai T' 204) a (kN a 7) 0 ∧ ∀ j, j < 80 → ai T' 205 j = 0 := by
    intro d
    induction d with
    | zero =>
      intro m fu T hk hfu m1 m2 m3 m4
      obtain ⟨fu, rfl⟩ : ∃ f', fu = f' + 1 := ⟨fu - 1, by omega⟩
      have hxT := m1.fx hx
      have : m = kN a 7 := by omega
      subst this
      refine ⟨T, ?_, m1, m2, m3, m4⟩
      unfold f_X11_countLives_L30
      rw [hxT.r1001_197, ob_some, hxT.l198, show (7 : Int32) = nI 7 from rfl, cki_nI (by omega) (by omega), nI_clamp (by omega), m2, w.n7.1, if_pos (nI_le (Nat.le_refl _) (by omega))]
    | succ d ih =>
      intro m fu T hk hfu m1 m2 m3 m4
      obtain ⟨fu, rfl⟩ : ∃ f', fu = f' + 1 := ⟨fu - 1, by omega⟩
      have hxT := m1.fx hx
      obtain ⟨T1, t1, t2, t3, t4, t5⟩ := row m (fun a0 a1 a2 => f_X11_countLives_L30 F fu a0 a1 a2) (by omega) (kN a 4) 0 F T (by omega) (by omega) m1 m2 m3 m4
      obtain ⟨T', r1, r2⟩ := ih (m + 1) fu T1 (by omega) (by omega) t2 t3 t4 t5
      refine ⟨T', ?_, r2⟩
      rw [← r1, ← t1]
      conv => lhs; unfold f_X11_countLives_L30
      have r0 : f_X11_refAt F T (nI m) 0 = some (nI (1171 + 3 * (10 * m + 0)), T) := m_refAt F T m 0
      rw [hxT.r1001_197, ob_some, hxT.l198, show (7 : Int32) = nI 7 from rfl, cki_nI (by omega) (by omega), nI_clamp (by omega), m2, w.n7.1, if_neg (nI_ge (by omega) (by omega)), r0, ob_some]
      simp only [lt_eq]
      rfl
  obtain ⟨T1, t1, t2, t3, t4⟩ := zero 80 0 F S (by omega) (by omega) (LvM.rf S) ha.symm (fun j hj => by omega)
  obtain ⟨T2, r1, r2, r3, r4, r5⟩ := loop (kN a 7) 0 F T1 (by omega) (by omega) t2 t3 (fun u c hu hc => by
    rw [(t4 (8 * u + c) (by omega)).1, cntP_0f (fun k _ q => by have := q.1; unfold vis at this; rw [if_neg (by omega)] at this; omega)]
    rfl) (fun j hj => (t4 j hj).2)
  refine ⟨T2, ?_, r2, r3, r4, fun u c hu hc => ?_⟩
  · unfold f_X11_countLives
    rw [← r1]
    exact t1
  · rw [r5 (8 * u + c) (by omega), cntP_0f (fun k _ q => by have := q.1; unfold vis at this; rw [if_neg (by omega)] at this; omega)]
    rfl
end Mcl
