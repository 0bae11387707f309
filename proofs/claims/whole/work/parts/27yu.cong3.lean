/-! a day with and without the journal -/
section Cg3
variable {N M B a b : Nat → Int32} {L L' : (Nat → Int32) → Int32 → Int32 → Nat → Int32}
theorem EqC.lg (hL : isLg L) (hL' : isLg L') (h : EqC N M) (x y x' y' : Int32) : EqC (L N x y) (L' M x' y') := fun k h1 h9 => ((hL' M x' y').1 k h1 h9).trans ((h k h1 h9).trans ((hL N x y).1 k h1 h9).symm)
theorem EqC.up (h : EqC N M) (i : Nat) {v v' : Int32} (e : v' = v) : EqC (upd N i v) (upd M i v') := fun k h1 h9 => by
  by_cases z : k = i
  · rw [z, upd_e, upd_e, e]
  · rw [upd_n z, upd_n z]; exact h k h1 h9
theorem buryN_cg (hL : isLg L) (hL' : isLg L') (h : EqC N M) {P Q : Nat → Prop} : ∀ x, (∀ q, q < x → (Q q ↔ P q)) → EqC (buryN L P x N) (buryN L' Q x M) := by
  intro x
  induction x with
  | zero => intro _; exact h
  | succ x ih =>
    intro hq
    have e := ih (fun q hq' => hq q (by omega))
    rw [buryN_s, buryN_s]
    by_cases z : P x
    · rw [pif_t z, pif_t ((hq x (by omega)).mpr z)]
      exact EqC.lg hL hL' (e.up _ (e 2 (by omega) (by omega))) _ _ _ _
    · rw [pif_f z, pif_f (fun y => z ((hq x (by omega)).mp y))]
      exact e
theorem seN_cg (hL : isLg L) (hL' : isLg L') (h : EqC N M) (w : WB N B) (m u : Nat) (hm : m < kN N 7) (s x x' : Int32) : EqC (seN L N m u s x) (seN L' M m u s x') := by
  have b4 := w.n4.2
  have b7 := w.n7.2
  have b8 := w.n8.2
  have e : EqC (stS N m u s) (stS M m u s) := h.up _ rfl
  have ek : ∀ k, k < 1171 → kN (stS N m u s) k = kN N k := fun k hk => by unfold kN; rw [stS_n (by omega)]
  have m4 : ∀ m', m' < kN N 7 → manyN (stS N m u s) m' ≤ 4 := fun m' h' => by unfold manyN; rw [ek _ (by omega)]; exact (w.wM m' h').2.2.2.1.2
  have k4 := ek 4 (by omega)
  have k7 := ek 7 (by omega)
  have q7 : kN (stS M m u s) 7 = kN N 7 := (e.kn (by omega) (by omega)).trans k7
  have q8 : kN M 8 = kN N 8 := h.kn (by omega) (by omega)
  have kp : ∀ m', m' < kN N 7 → (keptN (stS M m u s) m' ↔ keptN (stS N m u s) m') := fun m' h' => e.kept (by omega) (by omega)
  have hs : ∀ m' q, m' < kN N 7 → (hasN (stS M m u s) m' q ↔ hasN (stS N m u s) m' q) := fun m' q h' => e.has (by omega) (m4 m' h')
  have dd : ∀ q, dieP (stS M m u s) m q ↔ dieP (stS N m u s) m q := fun q => by
    unfold dieP
    rw [hs m q hm, q7, k7]
    exact ⟨fun ⟨y1, y2⟩ => ⟨y1, fun ⟨m', z1, z2, z3⟩ => y2 ⟨m', z1, (hs m' q z1).mpr z2, (kp m' z1).mpr z3⟩⟩, fun ⟨y1, y2⟩ => ⟨y1, fun ⟨m', z1, z2, z3⟩ => y2 ⟨m', z1, (hs m' q z1).mp z2, (kp m' z1).mp z3⟩⟩⟩
  unfold seN
  by_cases z : keptN (stS N m u s) m
  · rw [pif_t z, pif_t ((kp m hm).mpr z)]
    exact EqC.lg hL hL' e _ _ _ _
  · rw [pif_f z, pif_f (fun y => z ((kp m hm).mp y)), q8]
    exact buryN_cg hL hL' (EqC.lg hL hL' e _ _ _ _) _ (fun q _ => dd q)
theorem lv1_cg (hL : isLg L) (hL' : isLg L') (h : EqC N M) (w : WB N B) {m u : Nat} (hm : m < kN N 7) (hu : u < kN N 4) : EqC (lv1 L N B m u) (lv1 L' M B m u) := by
  have b3 := w.n3.2
  have b4 := w.n4.2
  have b7 := w.n7.2
  obtain ⟨c1, -⟩ := clK_lt w hm hu
  have ck : clK M m u = clK N m u := h.kn (by omega) (by omega)
  have e1 : M (13 + 9 * clK N m u) = N (13 + 9 * clK N m u) := h _ (by omega) (by omega)
  have cv : covN M B m u = covN N B m u := h.cov (EqB.rf N B) w hm
  unfold lv1
  rw [ck, e1, cv]
  by_cases z : N (13 + 9 * clK N m u) = -1
  · rw [if_pos z, if_pos z]
    exact seN_cg hL hL' h w m u hm _ _ _
  · rw [if_neg z, if_neg z]
    unfold updR
    exact EqC.lg hL hL' (((h.up _ rfl).up _ rfl).up _ (h 2 (by omega) (by omega))) _ _ _ _
theorem dayN_cg (h : EqC N M) : EqC (dayN N) (dayN M) := by
  unfold dayN
  exact h.up _ (by rw [h.kn (by omega) (by omega)])
theorem due_cg (h : EqC N M) (w : WB N B) {m u D : Nat} (hm : m < kN N 7) (hu : u < kN N 4) : dueP M m u D ↔ dueP N m u D := dueP_c (X := fun _ => False) (fun k h1 h9 _ => h k h1 h9) (fun k z => z.elim) w hm hu
theorem lvU_cg (hL : isLg L) (hL' : isLg L') (h0 : EqC N M) (w0 : WB N B) {D m : Nat} (hm : m < kN N 7) (ha : EqC a b) (hs : lvS N m 0 a) (hW : ∀ x, x ≤ kN N 4 → WB (lvU L B N D m x a) B) : ∀ x, x ≤ kN N 4 → EqC (lvU L B N D m x a) (lvU L' B M D m x b) := by
  have b4 := w0.n4.2
  have b7 := w0.n7.2
  have b8 := w0.n8.2
  intro x
  induction x with
  | zero => intro _; exact ha
  | succ x ih =>
    intro hx
    have e := ih (by omega)
    have s := lvS_row (B := B) (D := D) hL b8 (by omega) hs x (by omega)
    rw [lvU_s, lvU_s]
    by_cases z : dueP N m x D
    · rw [pif_t z, pif_t ((due_cg h0 w0 hm (by omega)).mpr z)]
      exact lv1_cg hL hL' e (hW x (by omega)) (by rw [s.kn (by omega) (by omega)]; exact hm) (by rw [s.kn (by omega) (by omega)]; omega)
    · rw [pif_f z, pif_f (fun y => z ((due_cg h0 w0 hm (by omega)).mp y))]
      exact e
theorem lvN_cg (hL : isLg L) (hL' : isLg L') (h0 : EqC N M) (w0 : WB N B) {D : Nat} (hW : lvW L B N D) : ∀ m, m ≤ kN N 7 → EqC (lvN L B N D m) (lvN L' B M D m) := by
  have b4 := w0.n4.2
  have b7 := w0.n7.2
  have b8 := w0.n8.2
  have q4 : kN M 4 = kN N 4 := h0.kn (by omega) (by omega)
  intro m
  induction m with
  | zero => intro _; exact h0
  | succ m ih =>
    intro hm
    rw [lvN_s, lvN_s, q4]
    exact lvU_cg hL hL' h0 w0 (by omega) (ih (by omega)) (lvS_all hL b8 b4 b7 m (by omega)) (fun x hx => (hW m x (by omega) hx).wb) _ (Nat.le_refl _)
theorem rndN_cg (hL : isLg L) (hL' : isLg L') (h : EqC N M) : ∀ x, x ≤ 480 → EqC (rndN L x N).1 (rndN L' x M).1 ∧ (rndN L' x M).2 = (rndN L x N).2 := by
  intro x
  induction x with
  | zero => intro _; exact ⟨h, rfl⟩
  | succ x ih =>
    intro hx
    obtain ⟨e, e2⟩ := ih (by omega)
    have r : remP (rndN L' x M).1 x ↔ remP (rndN L x N).1 x := by
      unfold remP
      rw [e.is (by omega), e.de (by omega), e 0 (by omega) (by omega), e 2 (by omega) (by omega)]
    rw [rndN_s, rndN_s]
    by_cases z : remP (rndN L x N).1 x
    · rw [pif_t z, pif_t (r.mpr z)]
      exact ⟨EqC.lg hL hL' (e.up _ rfl) _ _ _ _, by rw [e2]⟩
    · rw [pif_f z, pif_f (fun y => z (r.mp y))]
      exact ⟨e, e2⟩
theorem rdN_cg (hL : isLg L) (hL' : isLg L') (h : EqC N M) (b8 : kN N 8 ≤ 480) : EqC (rdN L N).1 (rdN L' M).1 ∧ (rdN L' M).2 = (rdN L N).2 := by
  obtain ⟨e, e2⟩ := rndN_cg hL hL' h (kN N 8) b8
  unfold rdN
  rw [h 2 (by omega) (by omega), h 1 (by omega) (by omega), h.kn (k := 8) (by omega) (by omega)]
  by_cases z : ¬ (N 2 - N 2 / N 1 * N 1) = 0
  · rw [if_pos z, if_pos z]
    exact ⟨EqC.lg hL hL' h _ _ _ _, rfl⟩
  · rw [if_neg z, if_neg z]
    exact ⟨EqC.lg hL hL' (EqC.lg hL hL' e _ _ _ _) _ _ _ _, e2⟩
theorem dyN_cg (hL : isLg L) (hL' : isLg L') (h : EqC N M) (w : WB N B) (hd : kN N 2 < 22000) (hW : lvW L B (dayN N) (kN N 2 + 1)) : EqC (dyN L B N).1 (dyN L' B M).1 ∧ (dyN L' B M).2 = (dyN L B N).2 := by
  have b4 := w.n4.2
  have b7 := w.n7.2
  have b8 := w.n8.2
  have k7 : kN (dayN N) 7 = kN N 7 := dayN_k (by omega)
  have k4 : kN (dayN N) 4 = kN N 4 := dayN_k (by omega)
  have k8 : kN (dayN N) 8 = kN N 8 := dayN_k (by omega)
  have s := lvS_all (N0 := dayN N) (B := B) (D := kN N 2 + 1) hL (by omega) (by omega) (by omega) (kN N 7) (by omega)
  unfold dyN
  rw [h.kn (k := 2) (by omega) (by omega), h.kn (k := 7) (by omega) (by omega)]
  exact rdN_cg hL hL' (lvN_cg hL hL' (dayN_cg h) (w.day hd) hW (kN N 7) (by omega)) (by rw [s.kn (by omega) (by omega)]; omega)
end Cg3
/-! without the journal nothing of it changes -/
section Hi
variable {N B a : Nat → Int32}
def hiP (k : Nat) : Prop := k = 9 ∨ 6211 ≤ k
theorem buryN_hi {k : Nat} (hk : hiP k) {P : Nat → Prop} : ∀ x, x ≤ 480 → buryN lg0 P x N k = N k := by
  intro x
  induction x with
  | zero => intro _; rfl
  | succ x ih =>
    intro hx
    rw [buryN_s]
    by_cases z : P x
    · rw [pif_t z]
      show upd _ _ _ k = N k
      rw [upd_n (by unfold hiP at hk; omega)]
      exact ih (by omega)
    · rw [pif_f z]; exact ih (by omega)
theorem seN_hi {k : Nat} (hk : hiP k) (b8 : kN N 8 ≤ 480) {m u : Nat} (hm : m < 120) (hu : u < 10) (s x : Int32) : seN lg0 N m u s x k = N k := by
  have e : stS N m u s k = N k := stS_n (by unfold hiP at hk; omega)
  unfold seN
  by_cases z : keptN (stS N m u s) m
  · rw [pif_t z]; exact e
  · rw [pif_f z, buryN_hi hk _ b8]; exact e
theorem lv1_hi {k : Nat} (hk : hiP k) (b8 : kN N 8 ≤ 480) {m u : Nat} (hm : m < 120) (hu : u < 10) : lv1 lg0 N B m u k = N k := by
  unfold lv1
  by_cases z : N (13 + 9 * clK N m u) = -1
  · rw [if_pos z]; exact seN_hi hk b8 hm hu _ _
  · rw [if_neg z]
    exact updR_n (by unfold hiP at hk; omega) (by unfold hiP at hk; omega) (by unfold hiP at hk; omega)
theorem lvU_hi {k : Nat} (hk : hiP k) (b8 : kN N 8 ≤ 480) {D m : Nat} (hm : m < 120) (hs : lvS N m 0 a) : ∀ x, x ≤ 10 → lvU lg0 B N D m x a k = a k := by
  intro x
  induction x with
  | zero => intro _; rfl
  | succ x ih =>
    intro hx
    have s := lvS_row (B := B) (D := D) isLg_0 b8 hm hs x (by omega)
    rw [lvU_s]
    by_cases z : dueP N m x D
    · rw [pif_t z, lv1_hi hk (by rw [s.kn (by omega) (by omega)]; exact b8) hm (by omega)]; exact ih (by omega)
    · rw [pif_f z]; exact ih (by omega)
theorem lvN_hi {k : Nat} (hk : hiP k) (b8 : kN N 8 ≤ 480) (b4 : kN N 4 ≤ 10) (b7 : kN N 7 ≤ 120) {D : Nat} : ∀ m, m ≤ kN N 7 → lvN lg0 B N D m k = N k := by
  intro m
  induction m with
  | zero => intro _; rfl
  | succ m ih =>
    intro hm
    rw [lvN_s, lvU_hi hk b8 (by omega) (lvS_all isLg_0 b8 b4 b7 m (by omega)) _ b4]
    exact ih (by omega)
theorem rndN_hi {k : Nat} (hk : hiP k) : ∀ x, x ≤ 480 → (rndN lg0 x N).1 k = N k := by
  intro x
  induction x with
  | zero => intro _; rfl
  | succ x ih =>
    intro hx
    rw [rndN_s]
    by_cases z : remP (rndN lg0 x N).1 x
    · rw [pif_t z]
      show upd _ _ _ k = N k
      rw [upd_n (by unfold hiP at hk; omega)]
      exact ih (by omega)
    · rw [pif_f z]; exact ih (by omega)
theorem rdN_hi {k : Nat} (hk : hiP k) (b8 : kN N 8 ≤ 480) : (rdN lg0 N).1 k = N k := by
  unfold rdN
  by_cases z : ¬ (N 2 - N 2 / N 1 * N 1) = 0
  · rw [if_pos z]; rfl
  · rw [if_neg z]; exact rndN_hi hk _ b8
theorem dyN_hi {k : Nat} (hk : hiP k) (b8 : kN N 8 ≤ 480) (b4 : kN N 4 ≤ 10) (b7 : kN N 7 ≤ 120) : (dyN lg0 B N).1 k = N k := by
  have k7 : kN (dayN N) 7 = kN N 7 := dayN_k (by omega)
  have k4 : kN (dayN N) 4 = kN N 4 := dayN_k (by omega)
  have k8 : kN (dayN N) 8 = kN N 8 := dayN_k (by omega)
  have s := lvS_all (N0 := dayN N) (B := B) (D := kN N 2 + 1) isLg_0 (by omega) (by omega) (by omega) (kN N 7) (by omega)
  unfold dyN
  rw [rdN_hi hk (by rw [s.kn (by omega) (by omega)]; omega), lvN_hi hk (by omega) (by omega) (by omega) _ (by omega)]
  exact dayN_n (by unfold hiP at hk; omega)
/-- well-formed on the way without the journal too -/
theorem lvW_0 {M : Nat → Int32} (h : EqC N M) (w : WB N B) (h9 : isCnt M 9 60) {D : Nat} (hW : lvW lgN B N D) : lvW lg0 B M D := by
  have b4 := w.n4.2
  have b7 := w.n7.2
  have b8 := w.n8.2
  have q4 : kN M 4 = kN N 4 := h.kn (by omega) (by omega)
  have q7 : kN M 7 = kN N 7 := h.kn (by omega) (by omega)
  have q8 : kN M 8 = kN N 8 := h.kn (by omega) (by omega)
  intro m x hm hx
  rw [q7] at hm
  rw [q4] at hx
  have e := lvU_cg isLg_lg isLg_0 h w (D := D) hm (lvN_cg isLg_lg isLg_0 h w hW m (by omega)) (lvS_all isLg_lg b8 b4 b7 m (by omega)) (fun x hx => (hW m x hm hx).wb) x hx
  refine e.wf (EqB.rf _ _) ?_ (hW m x hm hx)
  have i9 : lvU lg0 B M D m x (lvN lg0 B M D m) 9 = M 9 := by
    rw [lvU_hi (Or.inl rfl) (by omega) (by omega) (lvS_all isLg_0 (by omega) (by omega) (by omega) m (by omega)) x (by omega), lvN_hi (Or.inl rfl) (by omega) (by omega) (by omega) m (by omega)]
  unfold isCnt kN
  rw [i9]
  exact h9
end Hi
