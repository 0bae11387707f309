/-! one reference changes and stays kept -/
/-- the spool with a reference's state, class and day of entry changed -/
def updR (N : Nat → Int32) (m u : Nat) (s c e : Int32) : Nat → Int32 := upd (upd (upd N (1171 + 3 * (10 * m + u)) s) (1172 + 3 * (10 * m + u)) c) (1173 + 3 * (10 * m + u)) e
theorem updR_n {N : Nat → Int32} {m u k : Nat} {s c e : Int32} (h : ¬ k = 1171 + 3 * (10 * m + u)) (h1 : ¬ k = 1172 + 3 * (10 * m + u)) (h2 : ¬ k = 1173 + 3 * (10 * m + u)) : updR N m u s c e k = N k := by
  unfold updR
  rw [upd_n h2, upd_n h1, upd_n h]
theorem updR_0 (N : Nat → Int32) (m u : Nat) (s c e : Int32) : updR N m u s c e (1171 + 3 * (10 * m + u)) = s := by
  unfold updR
  rw [upd_n (by omega), upd_n (by omega), upd_e]
theorem updR_1 (N : Nat → Int32) (m u : Nat) (s c e : Int32) : updR N m u s c e (1172 + 3 * (10 * m + u)) = c := by
  unfold updR
  rw [upd_n (by omega), upd_e]
theorem updR_2 (N : Nat → Int32) (m u : Nat) (s c e : Int32) : updR N m u s c e (1173 + 3 * (10 * m + u)) = e := by
  unfold updR
  rw [upd_e]
theorem updR_st {N : Nat → Int32} {m u m' u' : Nat} {s c e : Int32} (h : u < 10) (h' : u' < 10) : stN (updR N m u s c e) m' u' = if m' = m ∧ u' = u then s else stN N m' u' := by
  unfold stN
  by_cases z : m' = m ∧ u' = u
  · obtain ⟨rfl, rfl⟩ := z
    rw [if_pos ⟨rfl, rfl⟩, updR_0]
  · rw [if_neg z, updR_n (by omega) (by omega) (by omega)]
theorem updR_cl {N : Nat → Int32} {m u m' u' : Nat} {s c e : Int32} (h : u < 10) (h' : u' < 10) : clN (updR N m u s c e) m' u' = if m' = m ∧ u' = u then c else clN N m' u' := by
  unfold clN
  by_cases z : m' = m ∧ u' = u
  · obtain ⟨rfl, rfl⟩ := z
    rw [if_pos ⟨rfl, rfl⟩, updR_1]
  · rw [if_neg z, updR_n (by omega) (by omega) (by omega)]
theorem updR_en {N : Nat → Int32} {m u m' u' : Nat} {s c e : Int32} (h : u < 10) (h' : u' < 10) : enN (updR N m u s c e) m' u' = if m' = m ∧ u' = u then e else enN N m' u' := by
  unfold enN
  by_cases z : m' = m ∧ u' = u
  · obtain ⟨rfl, rfl⟩ := z
    rw [if_pos ⟨rfl, rfl⟩, updR_2]
  · rw [if_neg z, updR_n (by omega) (by omega) (by omega)]
section Rf
variable {N B : Nat → Int32} {S S' : St} {n p : Nat}
theorem Cl.ref (g : Cl S n p N B) (hp : 27 ≤ p ∧ p + 20 < 212) {m u c : Nat} {s : Int32} (hm : m < kN N 7) (hu : u < kN N 4) (hs : s = 0 ∨ s = 1 ∨ s = 2) (h0 : 0 ≤ stN N m u ∧ stN N m u ≤ 2) (hc : c < kN N 3)
    (hO : ∀ i, (1 ≤ i ∧ i ≤ 19) ∨ (p ≤ i ∧ i ≤ p + 20 ∧ ¬ i = p + 3 ∧ ¬ i = p + 4 ∧ ¬ i = p + 5) ∨ (212 ≤ i ∧ i < n) → SameO S S' i)
    (h3 : ∀ k, ai S' (p + 3) k = if k = 10 * m + u then s else ai S (p + 3) k) (h4 : ∀ k, ai S' (p + 4) k = if k = 10 * m + u then nI c else ai S (p + 4) k) (h5 : ∀ k, ai S' (p + 5) k = if k = 10 * m + u then N 2 else ai S (p + 5) k) : Cl S' n p (updR N m u s (nI c) (N 2)) B := by
  have C := g.c0
  have w := C.wb
  have b3 := w.n3.2
  have b4 := w.n4.2
  have b6 := w.n6.2
  have b7 := w.n7.2
  have b8 := w.n8.2
  have n9 := w.n9
  obtain ⟨M, hM⟩ : ∃ M, M = updR N m u s (nI c) (N 2) := ⟨_, rfl⟩
  rw [← hM]
  have U : ∀ k, ¬ k = 1171 + 3 * (10 * m + u) → ¬ k = 1172 + 3 * (10 * m + u) → ¬ k = 1173 + 3 * (10 * m + u) → M k = N k := fun k a b d => by rw [hM]; exact updR_n a b d
  have hE : EqX (fun k => k = 1171 + 3 * (10 * m + u) ∨ k = 1172 + 3 * (10 * m + u) ∨ k = 1173 + 3 * (10 * m + u)) N M := fun k _ _ h => U k (fun z => h (Or.inl z)) (fun z => h (Or.inr (Or.inl z))) (fun z => h (Or.inr (Or.inr z)))
  have hX : okX (fun k => k = 1171 + 3 * (10 * m + u) ∨ k = 1172 + 3 * (10 * m + u) ∨ k = 1173 + 3 * (10 * m + u)) := fun k z => by omega
  have hK : ∀ k, ¬ k = 1171 + 3 * (10 * m + u) → ¬ k = 1172 + 3 * (10 * m + u) → ¬ k = 1173 + 3 * (10 * m + u) → kN M k = kN N k := fun k a b d => by unfold kN; rw [U k a b d]
  have st : ∀ m' u', u' < 10 → stN M m' u' = if m' = m ∧ u' = u then s else stN N m' u' := fun m' u' h' => by rw [hM]; exact updR_st (by omega) h'
  have cl : ∀ m' u', u' < 10 → clN M m' u' = if m' = m ∧ u' = u then nI c else clN N m' u' := fun m' u' h' => by rw [hM]; exact updR_cl (by omega) h'
  have en : ∀ m' u', u' < 10 → enN M m' u' = if m' = m ∧ u' = u then N 2 else enN N m' u' := fun m' u' h' => by rw [hM]; exact updR_en (by omega) h'
  have k4 : kN M 4 = kN N 4 := hK 4 (by omega) (by omega) (by omega)
  have k2 : kN M 2 = kN N 2 := hK 2 (by omega) (by omega) (by omega)
  have k3 : kN M 3 = kN N 3 := hK 3 (by omega) (by omega) (by omega)
  have s02 : 0 ≤ s ∧ s ≤ 2 := by rcases hs with rfl | rfl | rfl <;> decide
  have kept : ∀ m', keptN M m' ↔ keptN N m' := by
    intro m'
    unfold keptN
    rw [k4]
    constructor
    · rintro ⟨u', x1, x2⟩
      rw [st m' u' (by omega)] at x2
      by_cases z : m' = m ∧ u' = u
      · obtain ⟨rfl, rfl⟩ := z
        exact ⟨u', hu, h0⟩
      · rw [if_neg z] at x2
        exact ⟨u', x1, x2⟩
    · rintro ⟨u', x1, x2⟩
      refine ⟨u', x1, ?_⟩
      rw [st m' u' (by omega)]
      by_cases z : m' = m ∧ u' = u
      · rw [if_pos z]; exact s02
      · rw [if_neg z]; exact x2
  have h9 : isCnt M 9 60 := by unfold isCnt; rw [hK 9 (by omega) (by omega) (by omega), U 9 (by omega) (by omega) (by omega)]; exact n9
  have same : ∀ k, (k < 9 → SameO S S' (p + k) ∨ k = 3 ∨ k = 4 ∨ k = 5) := fun k hk => by
    by_cases z : k = 3 ∨ k = 4 ∨ k = 5
    · exact Or.inr z
    · exact Or.inl (hO _ (by omega))
  have P0 := hO p (by omega)
  have P6 := hO (p + 6) (by omega)
  refine Cl.mk' (Cl0.x hE hX h9 C (fun i hi => hO i (by omega)) (P0.2.1 700) ⟨P0.1 701, P0.1 702, P0.1 705⟩ (hE.wU (fun k z => by omega) b4 w.wU) (hE.wH (fun k z => by omega) b6 w.wH) ?_ ?_ ?_ ?_ ?_ ?_ ?_ ?_) ((g.cj.agr (fun i i1 i2 => hO i (by omega))).x (U 9 (by omega) (by omega) (by omega)) (fun k _ _ => U k (by omega) (by omega) (by omega)) n9.2) (by rw [k2]; exact g.dy)
  · intro m' u' hm' hu'
    rw [hK 7 (by omega) (by omega) (by omega)] at hm'
    rw [st m' u' hu', k4, k2, k3]
    obtain ⟨q1, q2, q3, q4, q5⟩ := w.wR m' u' hm' hu'
    by_cases z : m' = m ∧ u' = u
    · obtain ⟨rfl, rfl⟩ := z
      have e1 : M (1173 + 3 * (10 * m' + u')) = nI (kN N 2) := by rw [hM, updR_2]; exact w.n2.1
      have e2 : M (1172 + 3 * (10 * m' + u')) = nI c := by rw [hM, updR_1]
      obtain ⟨y1, y2⟩ := isCnt_nI (b := 22000) e1 w.n2.2 (by omega)
      obtain ⟨y3, y4⟩ := isCnt_nI (b := 8) e2 (by omega) (by omega)
      rw [if_pos ⟨rfl, rfl⟩]
      exact ⟨Or.inr (hs.elim Or.inl (fun z => Or.inr (z.elim Or.inl (fun y => Or.inr (Or.inl y))))), fun z => absurd z (by omega), y1, by rw [y2]; exact Nat.le_refl _, fun _ => ⟨y3, by rw [y4]; exact hc⟩⟩
    · rw [if_neg z]
      have ne : ∀ j, j < 3 → ∀ i, i < 3 → ¬ (1171 + j + 3 * (10 * m' + u')) = 1171 + i + 3 * (10 * m + u) := fun j hj i hi y => by omega
      refine ⟨q1, q2, hE.cnt (by omega) (by omega) (by omega) q3, by rw [hK _ (by omega) (by omega) (by omega)]; exact q4, fun y => ⟨hE.cnt (by omega) (by omega) (by omega) (q5 y).1, by rw [hK _ (by omega) (by omega) (by omega)]; exact (q5 y).2⟩⟩
  · intro q hq
    rw [hK 8 (by omega) (by omega) (by omega)] at hq
    obtain ⟨q1, q2, q3, q4, q5⟩ := w.wP q hq
    unfold isN deN at *
    rw [hK (4771 + 3 * q) (by omega) (by omega) (by omega), U (4772 + 3 * q) (by omega) (by omega) (by omega), U (4773 + 3 * q) (by omega) (by omega) (by omega), hK (4773 + 3 * q) (by omega) (by omega) (by omega), k2]
    exact ⟨hE.cnt (by omega) (by omega) (by omega) q1, q2, q3, q4.imp id (fun y => ⟨hE.cnt (by omega) (by omega) (by omega) y.1, y.2⟩), q5⟩
  · intro q hq
    have e1 : deN M q = deN N q := U _ (by omega) (by omega) (by omega)
    have e2 : isN M q = isN N q := U _ (by omega) (by omega) (by omega)
    rw [e1, e2, C.wf.link hq]
    refine ⟨?_, fun y => C.wf.isd hq ((C.wf.link hq).mpr y)⟩
    exact ⟨fun ⟨m, x1, x2, x3⟩ => ⟨m, x1, x2, (kept m).mpr x3⟩, fun ⟨m, x1, x2, x3⟩ => ⟨m, x1, x2, (kept m).mp x3⟩⟩
  · obtain ⟨act, a1, a2, a3⟩ := C.ac
    refine ⟨act, (P0.1 703).trans a1, a2, fun x hx => ?_⟩
    rw [U (208 + 21 * x) (by omega) (by omega) (by omega)]
    exact a3 x hx
  · intro c hc
    rw [(hO (p + 1) (by omega)).row, U _ (by omega) (by omega) (by omega)]
    exact C.qu c hc
  · intro m' u' hm' hu'
    have cf := C.cf m' u' hm' hu'
    rw [h3, h4, h5, st m' u' hu', cl m' u' hu', en m' u' hu']
    by_cases z : m' = m ∧ u' = u
    · obtain ⟨rfl, rfl⟩ := z
      simp
    · rw [if_neg z, if_neg z, if_neg z, if_neg (show ¬ 10 * m' + u' = 10 * m + u by omega), if_neg (show ¬ 10 * m' + u' = 10 * m + u by omega), if_neg (show ¬ 10 * m' + u' = 10 * m + u by omega)]
      exact cf
  · rw [P6.1 800, P6.1 801, P6.1 802]
    refine ⟨rfl, ?_⟩
    rw [cntP_c (P := fun q => isN M q = 1) (Q := fun q => isN N q = 1) (fun k hk => by rw [hE.is (fun k z => by omega) (by omega)]), cntP_c (P := fun q => isN M q = 1 ∧ ¬ deN M q = -1) (Q := fun q => isN N q = 1 ∧ ¬ deN N q = -1) (fun k hk => by rw [hE.is (fun k z => by omega) (by omega), hE.de (fun k z => by omega) (by omega)])]
    exact C.cp.1.2
  · intro q hq
    have cc := C.cp.2 q hq
    rw [(hO (p + 9) (by omega)).row, (hO (p + 10) (by omega)).row, hE.is (fun k z => by omega) (by omega), hE.de (fun k z => by omega) (by omega), cntP_c (P := fun m => hasN N m q ∧ keptN M m) (Q := fun m => hasN N m q ∧ keptN N m) (fun k hk => by rw [kept k])]
    exact ⟨cc.2.2.1, cc.2.2.2⟩
end Rf
