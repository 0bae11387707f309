/-! the parts of a new message are stored: the model -/
/-- the bytes of a new part -/
def byU (B f : Nat → Int32) (q a l : Nat) : Nat → Int32 := fun k => if 200 * q ≤ k ∧ k < 200 * q + l then f (a + (k - 200 * q)) else B k
/-- the part of a place is found or stored -/
noncomputable def pt1 (N B f : Nat → Int32) (L j : Nat) : (Nat → Int32) × (Nat → Int32) :=
  if nbC N B f L j < kN N 8 then (if deN N (nbC N B f L j) = -1 then N else lgN (upd N (4773 + 3 * nbC N B f L j) (-1)) 7 (nI (nbC N B f L j)), B)
  else (upd (upd (upd (upd N (4771 + 3 * kN N 8) (nI (lC f L j))) (4772 + 3 * kN N 8) 1) (4773 + 3 * kN N 8) (-1)) 8 (nI (kN N 8 + 1)), byU B f (kN N 8) (cC f L j) (lC f L j))
noncomputable def ptM (m : Nat) (f : Nat → Int32) (L : Nat) (a : (Nat → Int32) × (Nat → Int32)) (j : Nat) : (Nat → Int32) × (Nat → Int32) := (upd (pt1 a.1 a.2 f L j).1 (334 + 7 * m + j) (nI (nbC a.1 a.2 f L j)), (pt1 a.1 a.2 f L j).2)
noncomputable def ptN (m : Nat) (f : Nat → Int32) (L : Nat) (N B : Nat → Int32) (x : Nat) : (Nat → Int32) × (Nat → Int32) := runN (fun j a => ptM m f L a j) x 0 (N, B)
/-- what storing needs of a net -/
def Wp (N : Nat → Int32) : Prop := isCnt N 8 480 ∧ isCnt N 9 60 ∧ ∀ q, q < kN N 8 → isCnt N (4771 + 3 * q) 200
section Pn
variable {N B f : Nat → Int32} {L m j : Nat}
theorem ptN_s {x : Nat} : ptN m f L N B (x + 1) = ptM m f L (ptN m f L N B x) x := by
  unfold ptN
  rw [runN_s, Nat.zero_add]
theorem nbC_le : nbC N B f L j ≤ kN N 8 := by
  unfold nbC
  have := (fnd_sp (P := lkP N B f L j) (kN N 8) 0).2.1
  omega
/-- what stays of a net -/
theorem pt1_lo {k : Nat} (b8 : kN N 8 ≤ 480) (h : k < 4771) (h8 : ¬ k = 8) (h9 : ¬ k = 9) : (pt1 N B f L j).1 k = N k := by
  have nb := nbC_le (N := N) (B := B) (f := f) (L := L) (j := j)
  unfold pt1
  by_cases z : nbC N B f L j < kN N 8
  · rw [if_pos z]
    show (if deN N (nbC N B f L j) = -1 then N else lgN (upd N (4773 + 3 * nbC N B f L j) (-1)) 7 (nI (nbC N B f L j))) k = N k
    by_cases z2 : deN N (nbC N B f L j) = -1
    · rw [if_pos z2]
    · rw [if_neg z2, lgN_lo (by omega) h9, upd_n (by omega)]
  · rw [if_neg z]
    show upd _ _ _ k = N k
    rw [upd_n h8, upd_n (by omega), upd_n (by omega), upd_n (by omega)]
theorem Wp.st (w : Wp N) (h8 : kN N 8 < 480) (hl : lC f L j ≤ 200) : Wp (pt1 N B f L j).1 ∧ kN (pt1 N B f L j).1 8 ≤ kN N 8 + 1 ∧ kN N 8 ≤ kN (pt1 N B f L j).1 8 ∧ (nbC N B f L j < kN (pt1 N B f L j).1 8) := by
  obtain ⟨w1, w2, w3⟩ := w
  have nb := nbC_le (N := N) (B := B) (f := f) (L := L) (j := j)
  unfold pt1
  by_cases z : nbC N B f L j < kN N 8
  · rw [if_pos z]
    show Wp (if deN N (nbC N B f L j) = -1 then N else lgN (upd N (4773 + 3 * nbC N B f L j) (-1)) 7 (nI (nbC N B f L j))) ∧ kN (if deN N (nbC N B f L j) = -1 then N else lgN (upd N (4773 + 3 * nbC N B f L j) (-1)) 7 (nI (nbC N B f L j))) 8 ≤ kN N 8 + 1 ∧ kN N 8 ≤ kN (if deN N (nbC N B f L j) = -1 then N else lgN (upd N (4773 + 3 * nbC N B f L j) (-1)) 7 (nI (nbC N B f L j))) 8 ∧ (nbC N B f L j < kN (if deN N (nbC N B f L j) = -1 then N else lgN (upd N (4773 + 3 * nbC N B f L j) (-1)) 7 (nI (nbC N B f L j))) 8)
    by_cases z2 : deN N (nbC N B f L j) = -1
    · rw [if_pos z2]; exact ⟨⟨w1, w2, w3⟩, by omega, by omega, z⟩
    · rw [if_neg z2]
      have e : ∀ k, k < 6211 → ¬ k = 9 → ¬ k = 4773 + 3 * nbC N B f L j → lgN (upd N (4773 + 3 * nbC N B f L j) (-1)) 7 (nI (nbC N B f L j)) k = N k := fun k a b c => by rw [lgN_lo a b, upd_n c]
      have ek : ∀ k, k < 6211 → ¬ k = 9 → ¬ k = 4773 + 3 * nbC N B f L j → kN (lgN (upd N (4773 + 3 * nbC N B f L j) (-1)) 7 (nI (nbC N B f L j))) k = kN N k := fun k a b c => by unfold kN; rw [e k a b c]
      have c9 : isCnt (upd N (4773 + 3 * nbC N B f L j) (-1)) 9 60 := by unfold isCnt kN; rw [upd_n (by omega)]; exact w2
      rw [ek 8 (by omega) (by omega) (by omega)]
      refine ⟨⟨?_, lgN_9 c9, fun q hq => ?_⟩, by omega, by omega, z⟩
      · unfold isCnt; rw [ek 8 (by omega) (by omega) (by omega), e 8 (by omega) (by omega) (by omega)]; exact w1
      · rw [ek 8 (by omega) (by omega) (by omega)] at hq
        unfold isCnt
        rw [ek _ (by omega) (by omega) (by omega), e _ (by omega) (by omega) (by omega)]
        exact w3 q hq
  · rw [if_neg z]
    show Wp (upd (upd (upd (upd N (4771 + 3 * kN N 8) (nI (lC f L j))) (4772 + 3 * kN N 8) 1) (4773 + 3 * kN N 8) (-1)) 8 (nI (kN N 8 + 1))) ∧ kN (upd (upd (upd (upd N (4771 + 3 * kN N 8) (nI (lC f L j))) (4772 + 3 * kN N 8) 1) (4773 + 3 * kN N 8) (-1)) 8 (nI (kN N 8 + 1))) 8 ≤ kN N 8 + 1 ∧ kN N 8 ≤ kN (upd (upd (upd (upd N (4771 + 3 * kN N 8) (nI (lC f L j))) (4772 + 3 * kN N 8) 1) (4773 + 3 * kN N 8) (-1)) 8 (nI (kN N 8 + 1))) 8 ∧ (nbC N B f L j < kN (upd (upd (upd (upd N (4771 + 3 * kN N 8) (nI (lC f L j))) (4772 + 3 * kN N 8) 1) (4773 + 3 * kN N 8) (-1)) 8 (nI (kN N 8 + 1))) 8)
    generalize hM : upd (upd (upd (upd N (4771 + 3 * kN N 8) (nI (lC f L j))) (4772 + 3 * kN N 8) 1) (4773 + 3 * kN N 8) (-1)) 8 (nI (kN N 8 + 1)) = M
    have e8 : M 8 = nI (kN N 8 + 1) := by rw [← hM, upd_e]
    have el : M (4771 + 3 * kN N 8) = nI (lC f L j) := by rw [← hM, upd_n (by omega), upd_n (by omega), upd_n (by omega), upd_e]
    have e : ∀ k, ¬ k = 8 → ¬ k = 4771 + 3 * kN N 8 → ¬ k = 4772 + 3 * kN N 8 → ¬ k = 4773 + 3 * kN N 8 → M k = N k := fun k a b c d => by rw [← hM, upd_n a, upd_n d, upd_n c, upd_n b]
    obtain ⟨c8, k8⟩ := isCnt_nI (b := 480) e8 (by omega) (by omega)
    obtain ⟨cl, kl⟩ := isCnt_nI (b := 200) el hl (by omega)
    rw [k8]
    refine ⟨⟨c8, ?_, fun q hq => ?_⟩, by omega, by omega, by omega⟩
    · unfold isCnt kN; rw [e 9 (by omega) (by omega) (by omega) (by omega)]; exact w2
    · rw [k8] at hq
      by_cases y : q = kN N 8
      · rw [y]; exact cl
      · unfold isCnt kN
        rw [e _ (by omega) (by omega) (by omega) (by omega)]
        exact w3 q (by omega)
theorem Wp.up (w : Wp N) {i : Nat} (h : 10 ≤ i ∧ i < 4771) (v : Int32) : Wp (upd N i v) := by
  have e : ∀ k, ¬ k = i → upd N i v k = N k := fun k a => upd_n a
  have ek : ∀ k, ¬ k = i → kN (upd N i v) k = kN N k := fun k a => by unfold kN; rw [e k a]
  have ec : ∀ k b, ¬ k = i → (isCnt (upd N i v) k b ↔ isCnt N k b) := fun k b a => by unfold isCnt; rw [ek k a, e k a]
  refine ⟨(ec _ _ (by omega)).mpr w.1, (ec _ _ (by omega)).mpr w.2.1, fun q hq => ?_⟩
  rw [ek 8 (by omega)] at hq
  have := w.1.2
  exact (ec _ _ (by omega)).mpr (w.2.2 q hq)
/-- on the way -/
theorem ptN_w (w : Wp N) (hm : m < 120) (hg : gdC f L) (h8 : kN N 8 ≤ 4 * m) : ∀ x, x ≤ kC f L → Wp (ptN m f L N B x).1 ∧ kN (ptN m f L N B x).1 8 ≤ kN N 8 + x ∧ kN N 8 ≤ kN (ptN m f L N B x).1 8 ∧ ∀ k, k < 4771 → ¬ k = 8 → ¬ k = 9 → ¬ (334 + 7 * m ≤ k ∧ k < 334 + 7 * m + x) → (ptN m f L N B x).1 k = N k := by
  have g1 := hg.1
  intro x
  induction x with
  | zero => intro _; exact ⟨w, by show kN N 8 ≤ _; omega, Nat.le_refl _, fun k _ _ _ _ => rfl⟩
  | succ x ih =>
    intro hx
    obtain ⟨i1, i2, i3, i4⟩ := ih (by omega)
    obtain ⟨p1, p2, p3, -⟩ := i1.st (B := (ptN m f L N B x).2) (f := f) (L := L) (j := x) (by omega) (hg.2 x (by omega)).2
    have k8 : kN (ptN m f L N B (x + 1)).1 8 = kN (pt1 (ptN m f L N B x).1 (ptN m f L N B x).2 f L x).1 8 := by
      rw [ptN_s]
      show kN (upd _ _ _) 8 = _
      unfold kN
      rw [upd_n (by omega)]
    refine ⟨?_, by omega, by omega, fun k a b c d => ?_⟩
    · rw [ptN_s]; exact p1.up (by omega) _
    · rw [ptN_s]
      show upd _ _ _ k = N k
      rw [upd_n (by omega), pt1_lo (by omega) a b c]
      exact i4 k a b c (by omega)
end Pn
section Ms
variable {F : Nat} {S : St} {f : Nat → Int32} {L : Nat}
end Ms
