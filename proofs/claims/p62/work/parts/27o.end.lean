/-! a reference ends: the spools -/
theorem wb_x {N M B : Nat → Int32} {X : Nat → Prop} (h : EqX X N M) (hX : okX X) (h9 : isCnt M 9 60) (w : WB N B) (U : wU M) (H : wH M) (R : wR M) (P : wP M B) : WB M B := by
  have b3 := w.n3.2
  have b5 := w.n5.2
  have b7 := w.n7.2
  have Z : ∀ k, k < 83 → ¬ X k := fun k hk z => by have := hX k z; omega
  have hk : ∀ k, k < 11 → ¬ k = 9 → kN M k = kN N k := fun k a b => h.kn (by omega) b (Z k (by omega))
  have hc : ∀ {k b : Nat}, k < 11 → ¬ k = 9 → isCnt N k b → isCnt M k b := fun a b c => h.cnt (by omega) b (Z _ (by omega)) c
  exact ⟨⟨hc (by omega) (by omega) w.n0, hc (by omega) (by omega) w.n1, by rw [hk 1 (by omega) (by omega)]; exact w.n1p, hc (by omega) (by omega) w.n2⟩, ⟨hc (by omega) (by omega) w.n3, hc (by omega) (by omega) w.n4, hc (by omega) (by omega) w.n5, hc (by omega) (by omega) w.n6, hc (by omega) (by omega) w.n7, hc (by omega) (by omega) w.n8, h9⟩, h.wC (fun k z => by have := hX k z; omega) b3 w.wC, U, h.wG (fun k z => by have := hX k z; omega) b5 w.wG, H, h.wM (fun k z => by have := hX k z; omega) b7 w.wM, R, P⟩
theorem EqX.tr {X Y : Nat → Prop} {N M K : Nat → Int32} (h : EqX X N M) (g : EqX Y M K) : EqX (fun k => X k ∨ Y k) N K := fun k a b c => (g k a b (fun z => c (Or.inr z))).trans (h k a b (fun z => c (Or.inl z)))
theorem EqX.mono {X Y : Nat → Prop} {N M : Nat → Int32} (h : EqX X N M) (g : ∀ k, X k → Y k) : EqX Y N M := fun k a b c => h k a b (fun z => c (g k z))
/-- a way of writing the journal -/
def isLg (L : (Nat → Int32) → Int32 → Int32 → Nat → Int32) : Prop := ∀ N a b, (∀ k, k < 6211 → ¬ k = 9 → L N a b k = N k) ∧ (isCnt N 9 60 → isCnt (L N a b) 9 60)
theorem isLg_lg : isLg lgN := fun _ _ _ => ⟨fun _ h h9 => lgN_lo h h9, lgN_9⟩
def lg0 (N : Nat → Int32) (_ _ : Int32) : Nat → Int32 := N
theorem isLg_0 : isLg lg0 := fun _ _ _ => ⟨fun _ _ _ => rfl, id⟩
/-- the places of states, and of parts' last days -/
def xS (k : Nat) : Prop := 1171 ≤ k ∧ k < 4771 ∧ k % 3 = 1
def xD (k : Nat) : Prop := 4771 ≤ k ∧ k < 6211 ∧ k % 3 = 0
theorem WB.lg {L : (Nat → Int32) → Int32 → Int32 → Nat → Int32} {N B : Nat → Int32} (hL : isLg L) (w : WB N B) (a b : Int32) : WB (L N a b) B := by
  have b4 := w.n4.2
  have b6 := w.n6.2
  have b7 := w.n7.2
  have b8 := w.n8.2
  have hE : EqX (fun _ => False) N (L N a b) := fun k h h9 _ => (hL N a b).1 k h h9
  have e : ∀ k, k < 6211 → ¬ k = 9 → L N a b k = N k := (hL N a b).1
  have ek : ∀ k, k < 6211 → ¬ k = 9 → kN (L N a b) k = kN N k := fun k h h9 => by unfold kN; rw [e k h h9]
  refine wb_x hE (fun k z => z.elim) ((hL N a b).2 w.n9) w (hE.wU (fun k z => z.elim) b4 w.wU) (hE.wH (fun k z => z.elim) b6 w.wH) (hE.wR (fun k z => z.elim) b7 w.wR) (fun q hq => ?_)
  rw [ek 8 (by omega) (by omega)] at hq
  obtain ⟨q1, q2, q3, q4, q5⟩ := w.wP q hq
  unfold isN deN at *
  rw [ek (4771 + 3 * q) (by omega) (by omega), e (4772 + 3 * q) (by omega) (by omega), e (4773 + 3 * q) (by omega) (by omega), ek (4773 + 3 * q) (by omega) (by omega), ek 2 (by omega) (by omega)]
  exact ⟨hE.cnt (by omega) (by omega) (fun z => z) q1, q2, q3, q4.imp id (fun y => ⟨hE.cnt (by omega) (by omega) (fun z => z) y.1, y.2⟩), q5⟩
theorem WB.de {N B : Nat → Int32} (w : WB N B) {q : Nat} (hq : q < 480) : WB (upd N (4773 + 3 * q) (N 2)) B := by
  have b4 := w.n4.2
  have b6 := w.n6.2
  have b7 := w.n7.2
  have b8 := w.n8.2
  have hE : EqX (fun k => k = 4773 + 3 * q) N (upd N (4773 + 3 * q) (N 2)) := fun k _ _ h => upd_n h
  have e : ∀ k, ¬ k = 4773 + 3 * q → upd N (4773 + 3 * q) (N 2) k = N k := fun k h => upd_n h
  have ek : ∀ k, ¬ k = 4773 + 3 * q → kN (upd N (4773 + 3 * q) (N 2)) k = kN N k := fun k h => by unfold kN; rw [e k h]
  have n9 : isCnt (upd N (4773 + 3 * q) (N 2)) 9 60 := by unfold isCnt; rw [ek 9 (by omega), e 9 (by omega)]; exact w.n9
  refine wb_x hE (fun k z => by omega) n9 w (hE.wU (fun k z => by omega) b4 w.wU) (hE.wH (fun k z => by omega) b6 w.wH) (hE.wR (fun k z => by omega) b7 w.wR) (fun q' hq' => ?_)
  rw [ek 8 (by omega)] at hq'
  obtain ⟨q1, q2, q3, q4, q5⟩ := w.wP q' hq'
  unfold isN deN at *
  rw [ek (4771 + 3 * q') (by omega), e (4772 + 3 * q') (by omega), ek 2 (by omega)]
  refine ⟨hE.cnt (by omega) (by omega) (by omega) q1, q2, q3, ?_, q5⟩
  by_cases z : q' = q
  · subst z
    obtain ⟨y1, y2⟩ := isCnt_nI (b := 22000) ((upd_e N (4773 + 3 * q') (N 2)).trans w.n2.1) w.n2.2 (by omega)
    exact Or.inr ⟨y1, by rw [y2]; exact Nat.le_refl _⟩
  · rw [e (4773 + 3 * q') (by omega), ek (4773 + 3 * q') (by omega)]
    exact q4.imp id (fun y => ⟨hE.cnt (by omega) (by omega) (by omega) y.1, y.2⟩)
def stS (N : Nat → Int32) (m u : Nat) (s : Int32) : Nat → Int32 := upd N (1171 + 3 * (10 * m + u)) s
theorem stS_st {N : Nat → Int32} {m u m' u' : Nat} {s : Int32} (h : u < 10) (h' : u' < 10) : stN (stS N m u s) m' u' = if m' = m ∧ u' = u then s else stN N m' u' := by
  unfold stN stS
  by_cases z : m' = m ∧ u' = u
  · obtain ⟨rfl, rfl⟩ := z
    rw [if_pos ⟨rfl, rfl⟩, upd_e]
  · rw [if_neg z, upd_n (by omega)]
theorem stS_n {N : Nat → Int32} {m u k : Nat} {s : Int32} (h : ¬ k = 1171 + 3 * (10 * m + u)) : stS N m u s k = N k := upd_n h
theorem WB.st {N B : Nat → Int32} (w : WB N B) {m u : Nat} {s : Int32} (hm : m < kN N 7) (hu : u < kN N 4) (hs : s = 1 ∨ s = 2 ∨ s = 3) : WB (stS N m u s) B := by
  have b4 := w.n4.2
  have b6 := w.n6.2
  have b7 := w.n7.2
  have b8 := w.n8.2
  have hE : EqX (fun k => k = 1171 + 3 * (10 * m + u)) N (stS N m u s) := fun k _ _ h => stS_n h
  have e : ∀ k, ¬ k = 1171 + 3 * (10 * m + u) → stS N m u s k = N k := fun k h => stS_n h
  have ek : ∀ k, ¬ k = 1171 + 3 * (10 * m + u) → kN (stS N m u s) k = kN N k := fun k h => by unfold kN; rw [e k h]
  have n9 : isCnt (stS N m u s) 9 60 := by unfold isCnt; rw [ek 9 (by omega), e 9 (by omega)]; exact w.n9
  refine wb_x hE (fun k z => by omega) n9 w (hE.wU (fun k z => by omega) b4 w.wU) (hE.wH (fun k z => by omega) b6 w.wH) (fun m' u' hm' hu' => ?_) (fun q' hq' => ?_)
  · rw [ek 7 (by omega)] at hm'
    obtain ⟨q1, q2, q3, q4, q5⟩ := w.wR m' u' hm' hu'
    rw [stS_st (by omega) hu', ek 4 (by omega), ek 2 (by omega), ek 3 (by omega), ek (1173 + 3 * (10 * m' + u')) (by omega), ek (1172 + 3 * (10 * m' + u')) (by omega)]
    have c5 : u' < kN N 4 → isCnt (stS N m u s) (1172 + 3 * (10 * m' + u')) 8 ∧ kN N (1172 + 3 * (10 * m' + u')) < kN N 3 := fun y => ⟨hE.cnt (by omega) (by omega) (by omega) (q5 y).1, (q5 y).2⟩
    by_cases z : m' = m ∧ u' = u
    · obtain ⟨rfl, rfl⟩ := z
      rw [if_pos ⟨rfl, rfl⟩]
      exact ⟨Or.inr (Or.inr hs), fun y => absurd y (by omega), hE.cnt (by omega) (by omega) (by omega) q3, q4, c5⟩
    · rw [if_neg z]
      exact ⟨q1, q2, hE.cnt (by omega) (by omega) (by omega) q3, q4, c5⟩
  · rw [ek 8 (by omega)] at hq'
    obtain ⟨q1, q2, q3, q4, q5⟩ := w.wP q' hq'
    unfold isN deN at *
    rw [ek (4771 + 3 * q') (by omega), e (4772 + 3 * q') (by omega), e (4773 + 3 * q') (by omega), ek (4773 + 3 * q') (by omega), ek 2 (by omega)]
    exact ⟨hE.cnt (by omega) (by omega) (by omega) q1, q2, q3, q4.imp id (fun y => ⟨hE.cnt (by omega) (by omega) (by omega) y.1, y.2⟩), q5⟩
/-- the parts of P that lie before x die today -/
noncomputable def buryN (L : (Nat → Int32) → Int32 → Int32 → Nat → Int32) (P : Nat → Prop) (x : Nat) (N : Nat → Int32) : Nat → Int32 := runN (fun q a => pif (P q) (L (upd a (4773 + 3 * q) (a 2)) 6 (nI q)) a) x 0 N
section Bu
variable {L : (Nat → Int32) → Int32 → Int32 → Nat → Int32} {P : Nat → Prop} {N B : Nat → Int32}
theorem buryN_0 : buryN L P 0 N = N := rfl
theorem buryN_s (x : Nat) : buryN L P (x + 1) N = pif (P x) (L (upd (buryN L P x N) (4773 + 3 * x) (buryN L P x N 2)) 6 (nI x)) (buryN L P x N) := by
  unfold buryN
  rw [runN_s, Nat.zero_add]
theorem buryN_skip {x : Nat} : ∀ d, (∀ q, x ≤ q → q < x + d → ¬ P q) → buryN L P (x + d) N = buryN L P x N := by
  intro d
  induction d with
  | zero => intro _; rfl
  | succ d ih =>
    intro h
    rw [← Nat.add_assoc, buryN_s, pif_f (h (x + d) (by omega) (by omega))]
    exact ih (fun q a b => h q a (by omega))
theorem buryN_de (hL : isLg L) : ∀ x, x ≤ 480 → (∀ k, k < 6211 → ¬ k = 9 → ¬ xD k → buryN L P x N k = N k) ∧ (∀ q, q < 480 → deN (buryN L P x N) q = pif (P q ∧ q < x) (N 2) (deN N q)) ∧ (isCnt N 9 60 → isCnt (buryN L P x N) 9 60) ∧ (WB N B → WB (buryN L P x N) B) := by
  intro x
  induction x with
  | zero =>
    intro _
    rw [buryN_0]
    exact ⟨fun _ _ _ _ => rfl, fun q _ => by rw [pif_f (by omega)], id, id⟩
  | succ x ih =>
    intro hx
    obtain ⟨i1, i2, i3, i4⟩ := ih (by omega)
    have e2 : buryN L P x N 2 = N 2 := i1 2 (by omega) (by omega) (by unfold xD; omega)
    rw [buryN_s]
    by_cases z : P x
    · rw [pif_t z]
      obtain ⟨M, hM⟩ : ∃ M, M = upd (buryN L P x N) (4773 + 3 * x) (buryN L P x N 2) := ⟨_, rfl⟩
      obtain ⟨l1, l2⟩ := hL M 6 (nI x)
      rw [← hM]
      have m1 : ∀ k, ¬ k = 4773 + 3 * x → M k = buryN L P x N k := fun k hk => by rw [hM]; exact upd_n hk
      refine ⟨fun k h h9 hd => ?_, fun q hq => ?_, fun h => l2 ?_, fun w => WB.lg hL (by rw [hM]; exact (i4 w).de (by omega)) _ _⟩
      · rw [l1 k h h9, m1 k (fun y => hd (by unfold xD; omega))]
        exact i1 k h h9 hd
      · show L M 6 (nI x) (4773 + 3 * q) = _
        rw [l1 _ (by omega) (by omega)]
        by_cases y : q = x
        · subst y
          rw [pif_t ⟨z, by omega⟩, hM, upd_e, e2]
        · rw [m1 _ (by omega)]
          refine (i2 q hq).trans (pif_c ⟨fun g => ⟨g.1, by omega⟩, fun g => ⟨g.1, by omega⟩⟩)
      · have := i3 h
        unfold isCnt kN at *
        rw [m1 9 (by omega)]
        exact this
    · rw [pif_f z]
      refine ⟨i1, fun q hq => (i2 q hq).trans (pif_c ⟨fun g => ⟨g.1, by omega⟩, fun g => ⟨g.1, ?_⟩⟩), i3, i4⟩
      rcases Nat.lt_or_ge q x with y | y
      · exact y
      · exact absurd g.1 (by rw [show q = x by omega]; exact z)
end Bu
