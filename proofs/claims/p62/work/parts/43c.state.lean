/-! the spool of the law, as numbers -/
/-- some part of the message is a text with the word ab -/
def abM (N : Nat → Int32) (nu : Nat → Nat) (m : Nat) : Prop := ∃ i, i < manyN N m ∧ ∃ s, s < 6 ∧ nu s = partN N m i + 1 ∧ abS s
noncomputable def abN (N : Nat → Int32) (nu : Nat → Nat) (u x : Nat) : Int32 := runN (fun m (a : Int32) => if ¬ stN N m u = 0 then a else pif (abM N nu m) (a + 1) a) x 0 0
def LN (X : XS) (N B : Nat → Int32) (P : PS) (us ab : Nat → Nat) (many ev : Nat) : Prop :=
  (kN N 3 = clX X ∧ kN N 4 = usX X ∧ (∀ u, u < usX X → N (83 + 8 * u) = nI (coX X u) ∧ N (84 + 8 * u) = nI (quX X u)) ∧ N 2 = 0) ∧
  (PTb N B P.1 ∧ kN N 8 = P.2.1 ∧ stoN N = nI P.2.2) ∧ (kN N 7 = many ∧ N 9 = nI ev) ∧
  (∀ m, m < many → (∀ u, u < 10 → stN N m u = 0 ∨ stN N m u = -1) ∧ ∃ u, u < usX X ∧ stN N m u = 0) ∧
  (∀ u, u < usX X → usN N u = nI (us u)) ∧ ∀ u, u < usX X → abN N P.1 u many = nI (ab u)
section Ln
variable {X : XS} {N N' B : Nat → Int32} {P : PS} {us ab : Nat → Nat} {many ev ev' : Nat}
theorem IsP.c {q s : Nat} {B' : Nat → Int32} (h : IsP N B q s) (e : ∀ y, y < 3 → N' (4771 + 3 * q + y) = N (4771 + 3 * q + y)) (b : ∀ k, k < 200 → B' (200 * q + k) = B (200 * q + k)) (hs : s < 6) : IsP N' B' q s := by
  obtain ⟨h1, h2, h3, h4⟩ := h
  have e0 := e 0 (by omega)
  have e1 := e 1 (by omega)
  have e2 := e 2 (by omega)
  rw [Nat.add_zero] at e0
  rw [show 4771 + 3 * q + 1 = 4772 + 3 * q by omega] at e1
  rw [show 4771 + 3 * q + 2 = 4773 + 3 * q by omega] at e2
  refine ⟨e1.trans h1, e2.trans h2, by unfold kN at h3 ⊢; rw [e0]; exact h3, fun k hk => ?_⟩
  have := (ptL_b s hs).2
  rw [b k (by omega)]; exact h4 k hk
theorem PTb.c {nu : Nat → Nat} {B' : Nat → Int32} (h : PTb N B nu) (b8 : kN N 8 ≤ 480) (e8 : N' 8 = N 8) (e : ∀ k, 4771 ≤ k → k < 6211 → N' k = N k) (b : ∀ k, B' k = B k) : PTb N' B' nu := by
  have k8 : kN N' 8 = kN N 8 := by unfold kN; rw [e8]
  refine ⟨fun s hs hz => ?_, fun q hq => ?_⟩
  · obtain ⟨h1, h2⟩ := h.1 s hs hz
    exact ⟨by rw [k8]; exact h1, h2.c (fun y hy => e _ (by omega) (by omega)) (fun k _ => b _) hs⟩
  · rw [k8] at hq
    exact h.2 q hq
theorem sto_c (b8 : kN N 8 ≤ 480) (e8 : N' 8 = N 8) (e : ∀ k, 4771 ≤ k → k < 6211 → N' k = N k) : stoN N' = stoN N := by
  have k8 : kN N' 8 = kN N 8 := by unfold kN; rw [e8]
  show runN _ (kN N' 8) 0 0 = runN _ (kN N 8) 0 0
  rw [k8]
  exact sto_s (fun q hq => ⟨e _ (by omega) (by omega), e _ (by omega) (by omega)⟩)
/-- what a message's rows say -/
theorem sz_c {m : Nat} (m4 : manyN N m ≤ 4) (p8 : ∀ i, i < manyN N m → partN N m i < 480) (e1 : manyN N' m = manyN N m) (e2 : ∀ i, i < 4 → partN N' m i = partN N m i) (e3 : ∀ q, q < 480 → kN N' (4771 + 3 * q) = kN N (4771 + 3 * q)) : szN N' m = szN N m := by
  unfold szN
  rw [e1]
  exact runN_e (fun i a hi => by rw [e2 i (by omega), e3 _ (p8 i hi)])
theorem us_s {u x : Nat} : runN (fun m (a : Int32) => if stN N m u = 0 then a + nI (szN N m) else a) (x + 1) 0 0 = if stN N x u = 0 then runN (fun m (a : Int32) => if stN N m u = 0 then a + nI (szN N m) else a) x 0 0 + nI (szN N x) else runN (fun m (a : Int32) => if stN N m u = 0 then a + nI (szN N m) else a) x 0 0 := by
  rw [runN_s, Nat.zero_add]
theorem ab_s {nu : Nat → Nat} {u x : Nat} : abN N nu u (x + 1) = if ¬ stN N x u = 0 then abN N nu u x else pif (abM N nu x) (abN N nu u x + 1) (abN N nu u x) := by
  unfold abN
  rw [runN_s, Nat.zero_add]
theorem LN.c (h : LN X N B P us ab many ev) (w : WB N B) (e : ∀ k, k < 6211 → ¬ k = 9 → ¬ k = 10 → N' k = N k) (e9 : N' 9 = nI ev') : LN X N' B P us ab many ev' := by
  obtain ⟨⟨a1, a2, a3, a4⟩, ⟨b1, b2, b3⟩, ⟨c1, c2⟩, d, f, g⟩ := h
  have w3 := w.n3.2
  have w4 := w.n4.2
  have w7 := w.n7.2
  have w8 := w.n8.2
  have ux := usX_b X
  have kk : ∀ k, k < 6211 → ¬ k = 9 → ¬ k = 10 → kN N' k = kN N k := fun k x y z => by unfold kN; rw [e k x y z]
  have st : ∀ m u, m < 120 → u < 10 → stN N' m u = stN N m u := fun m u hm hu => e _ (by omega) (by omega) (by omega)
  have mm : ∀ m, m < 120 → manyN N' m = manyN N m := fun m hm => kk _ (by omega) (by omega) (by omega)
  have pp : ∀ m i, m < 120 → i < 4 → partN N' m i = partN N m i := fun m i hm hi => kk _ (by omega) (by omega) (by omega)
  have m4 : ∀ m, m < kN N 7 → manyN N m ≤ 4 := fun m hm => (w.wM m hm).2.2.2.1.2
  refine ⟨⟨(kk 3 (by omega) (by omega) (by omega)).trans a1, (kk 4 (by omega) (by omega) (by omega)).trans a2, fun u hu => ?_, (e 2 (by omega) (by omega) (by omega)).trans a4⟩,
    ⟨b1.c w8 (e 8 (by omega) (by omega) (by omega)) (fun k x y => e k (by omega) (by omega) (by omega)) (fun _ => rfl), (kk 8 (by omega) (by omega) (by omega)).trans b2, (sto_c w8 (e 8 (by omega) (by omega) (by omega)) (fun k x y => e k (by omega) (by omega) (by omega))).trans b3⟩,
    ⟨(kk 7 (by omega) (by omega) (by omega)).trans c1, e9⟩, fun m hm => ?_, fun u hu => ?_, fun u hu => ?_⟩
  · rw [e (83 + 8 * u) (by omega) (by omega) (by omega), e (84 + 8 * u) (by omega) (by omega) (by omega)]
    exact a3 u hu
  · obtain ⟨d1, u, d2, d3⟩ := d m hm
    exact ⟨fun u hu => by rw [st m u (by omega) hu]; exact d1 u hu, u, d2, by rw [st m u (by omega) (by omega)]; exact d3⟩
  · rw [← f u hu]
    show runN _ (kN N' 7) 0 0 = runN _ (kN N 7) 0 0
    rw [kk 7 (by omega) (by omega) (by omega)]
    refine runN_e (fun m a hm => ?_)
    rw [st m u (by omega) (by omega), sz_c (m4 m hm) (fun i hi => by have := ((w.wM m hm).2.2.2.2.2 i hi).2; omega) (mm m (by omega)) (fun i hi => pp m i (by omega) hi) (fun q hq => kk _ (by omega) (by omega) (by omega))]
  · rw [← g u hu]
    unfold abN
    refine runN_e (fun m a hm => ?_)
    rw [st m u (by omega) (by omega)]
    have : abM N' P.1 m ↔ abM N P.1 m := by
      unfold abM
      rw [mm m (by omega)]
      have := m4 m (by omega)
      exact ⟨fun ⟨i, hi, s, s1, s2, s3⟩ => ⟨i, hi, s, s1, by rw [← pp m i (by omega) (by omega)]; exact s2, s3⟩, fun ⟨i, hi, s, s1, s2, s3⟩ => ⟨i, hi, s, s1, by rw [pp m i (by omega) (by omega)]; exact s2, s3⟩⟩
    by_cases z : abM N P.1 m
    · rw [pif_t z, pif_t (this.mpr z)]
    · rw [pif_f z, pif_f (fun y => z (this.mp y))]
/-- the bounces' events -/
theorem bn_ev {Q : Nat → Prop} (h9 : N 9 = nI ev) : ∀ x, ev + x ≤ 60 → (bnN Q N x).1 9 = nI (ev + cntP Q x) ∧ cntP Q x ≤ x := by
  intro x
  induction x with
  | zero => intro _; exact ⟨h9, Nat.le_refl _⟩
  | succ x ih =>
    intro hx
    obtain ⟨i1, i2⟩ := ih (by omega)
    rw [bnN_s, cntP_s]
    by_cases z : Q x
    · rw [pif_t z, pif_t z]
      have k9 : kN (bnN Q N x).1 9 = ev + cntP Q x := by unfold kN; rw [i1, nI_clamp (by omega)]
      refine ⟨?_, by omega⟩
      show lgN (bnN Q N x).1 2 (nI x) 9 = _
      unfold lgN
      rw [if_pos (by omega), if_pos rfl, k9, Nat.add_assoc]
    · rw [pif_f z, pif_f z, Nat.add_zero]
      exact ⟨i1, by omega⟩
/-- who bounces -/
def boP (X : XS) (m : Nat) (us : Nat → Nat) (u : Nat) : Prop := (reX X m).testBit u = true ∧ quX X u < us u + siX X m
theorem bo_iff {m u : Nat} (h : LN X N B P us ab many ev) (hu : u < usX X) (hus : us u ≤ 1000) : bnP N (reX X m) (siX X m) u ↔ boP X m us u := by
  have hq := quX_b X u
  have hs := siX_b (X := X) (m := m)
  unfold bnP boP
  rw [h.2.2.2.2.1 u hu, (h.1.2.2.1 u hu).2, nI_add, nI_leI (by omega) (by omega)]
  exact ⟨fun ⟨a, b⟩ => ⟨a, by omega⟩, fun ⟨a, b⟩ => ⟨a, by omega⟩⟩
theorem re_tb {m u : Nat} (h : (reX X m).testBit u = true) : u < usX X := by
  apply Classical.byContradiction
  intro hn
  have := (reX_b X m).2
  rw [Nat.testBit_lt_two_pow (Nat.lt_of_lt_of_le this (Nat.pow_le_pow_right (by omega) (by omega)))] at h
  cases h
theorem re_lt {m : Nat} : reX X m < 8 := by
  have := (reX_b X m).2
  have := (us_pow X).2
  omega
/-- the bounces as a number -/
theorem bo_b {m : Nat} (h : LN X N B P us ab many ev) (hus : ∀ u, u < usX X → us u ≤ 1000) : bN N (reX X m) (siX X m) < 8 ∧ ∀ u, (bN N (reX X m) (siX X m)).testBit u = true ↔ u < usX X ∧ boP X m us u := by
  have ux := usX_b X
  have k4 := h.1.2.1
  obtain ⟨b1, b2⟩ := bn_b (N := N) (P := bnP N (reX X m) (siX X m)) (kN N 4) (by omega)
  have b1' : bN N (reX X m) (siX X m) < 1024 := b1
  have b2' : ∀ u, u < 10 → ((bN N (reX X m) (siX X m)).testBit u = true ↔ u < kN N 4 ∧ bnP N (reX X m) (siX X m) u) := b2
  have key : ∀ u, (bN N (reX X m) (siX X m)).testBit u = true ↔ u < usX X ∧ boP X m us u := fun u => by
    by_cases z : u < 10
    · rw [b2' u z, k4]
      exact ⟨fun y => ⟨y.1, (bo_iff h y.1 (hus u y.1)).mp y.2⟩, fun y => ⟨y.1, (bo_iff h y.1 (hus u y.1)).mpr y.2⟩⟩
    · rw [tb_hi b1' z]
      exact ⟨fun y => (by cases y), fun y => by omega⟩
  refine ⟨?_, key⟩
  show _ < 2 ^ 3
  apply Nat.lt_pow_two_of_testBit
  intro i hi
  cases e : (bN N (reX X m) (siX X m)).testBit i with
  | false => rfl
  | true => have := (key i).mp e; omega
end Ln
