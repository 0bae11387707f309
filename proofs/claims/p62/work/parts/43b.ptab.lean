/-! the table of parts, sort by sort -/
/-- part q is of sort s -/
def IsP (N B : Nat → Int32) (q s : Nat) : Prop := isN N q = 1 ∧ deN N q = -1 ∧ kN N (4771 + 3 * q) = (ptL s).length ∧ ∀ k, k < (ptL s).length → B (200 * q + k) = chL (ptL s) k
/-- each sort's number, and one more; 0: none -/
def PTb (N B : Nat → Int32) (nu : Nat → Nat) : Prop := (∀ s, s < 6 → ¬ nu s = 0 → nu s - 1 < kN N 8 ∧ IsP N B (nu s - 1) s) ∧ ∀ q, q < kN N 8 → ∃ s, s < 6 ∧ nu s = q + 1
abbrev PS : Type := (Nat → Nat) × Nat × Nat
def psS (a : PS) (s : Nat) : PS := if a.1 s = 0 then (updN a.1 s (a.2.1 + 1), a.2.1 + 1, a.2.2 + (ptL s).length) else a
def psN (X : XS) (m : Nat) (a : PS) : Nat → PS
  | 0 => a
  | i + 1 => psS (psN X m a i) (soX X m i)
theorem ps_s (X : XS) (m : Nat) (a : PS) (i : Nat) : psN X m a (i + 1) = psS (psN X m a i) (soX X m i) := rfl
theorem pt_dis : ∀ s, s < 6 → ∀ t, t < 6 → s = t ∨ ¬ (ptL s).length = (ptL t).length ∨ ¬ chL (ptL s) 0 = chL (ptL t) 0 := by decide
theorem pt_eq {s t : Nat} (hs : s < 6) (ht : t < 6) (h1 : (ptL s).length = (ptL t).length) (h2 : ∀ k, k < (ptL s).length → chL (ptL s) k = chL (ptL t) k) : s = t := by
  rcases pt_dis s hs t ht with y | y | y
  · exact y
  · exact absurd h1 y
  · exact absurd (h2 0 (ptL_b s hs).1) y
section Pb
variable {N B f : Nat → Int32} {nu : Nat → Nat} {L j s q : Nat}
/-- two parts of one sort -/
theorem PTb.un (h : PTb N B nu) {s' : Nat} (hs : s < 6) (hs' : s' < 6) (e : nu s = nu s') (hz : ¬ nu s = 0) : s = s' := by
  obtain ⟨-, -, -, a3, a4⟩ := h.1 s hs hz
  obtain ⟨-, -, -, b3, b4⟩ := h.1 s' hs' (by omega)
  rw [← e] at b3 b4
  refine pt_eq hs hs' (by rw [← a3, b3]) (fun k hk => ?_)
  rw [← a4 k hk, b4 k (by rw [← b3, a3]; exact hk)]
theorem lk_iff (h : PTb N B nu) (hs : s < 6) (hl : lC f L j = (ptL s).length) (hf : ∀ k, k < (ptL s).length → f (cC f L j + k) = chL (ptL s) k) (hq : q < kN N 8) : lkP N B f L j q ↔ nu s = q + 1 := by
  obtain ⟨s', h1, h2⟩ := h.2 q hq
  obtain ⟨a1, a2, a3, a4, a5⟩ := h.1 s' h1 (by omega)
  rw [show nu s' - 1 = q by omega] at a2 a3 a4 a5
  constructor
  · rintro ⟨b1, b2, b3⟩
    have : s' = s := pt_eq h1 hs (by rw [← a4, b2, hl]) (fun k hk => by rw [← a5 k hk, b3 k (by rw [← b2, a4]; exact hk), hf k (by rw [← hl, ← b2, a4]; exact hk)])
    rw [← this]; exact h2
  · intro e
    have : s' = s := h.un h1 hs (by omega) (by omega)
    rw [this] at a4 a5
    exact ⟨a2, by rw [a4, hl], fun k hk => by rw [hl] at hk; rw [a5 k hk, hf k hk]⟩
theorem nb_fnd (h : PTb N B nu) (hs : s < 6) (hl : lC f L j = (ptL s).length) (hf : ∀ k, k < (ptL s).length → f (cC f L j + k) = chL (ptL s) k) : (¬ nu s = 0 → nbC N B f L j = nu s - 1 ∧ nu s - 1 < kN N 8) ∧ (nu s = 0 → nbC N B f L j = kN N 8) := by
  constructor
  · intro z
    have lt := (h.1 s hs z).1
    refine ⟨fnd_eq lt ((lk_iff h hs hl hf lt).mpr (by omega)) (fun y hy w => ?_), lt⟩
    have := (lk_iff h hs hl hf (q := y) (by omega)).mp w
    omega
  · intro z
    exact fnd_no (fun x hx w => by have := (lk_iff h hs hl hf hx).mp w; omega)
end Pb
section Pst
variable {X : XS} {m : Nat} {f N B : Nat → Int32} {L M : Nat} {a : PS}
theorem sto_s {N' : Nat → Int32} {x : Nat} (h : ∀ q, q < x → isN N' q = isN N q ∧ lenN N' q = lenN N q) : runN (fun q (a : Int32) => if isN N' q = 1 then a + lenN N' q else a) x 0 0 = runN (fun q (a : Int32) => if isN N q = 1 then a + lenN N q else a) x 0 0 :=
  runN_e (fun q b hq => by rw [(h q hq).1, (h q hq).2])
/-- what holds when the first i parts of the message are stored -/
def SI6 (X : XS) (m M : Nat) (f : Nat → Int32) (L : Nat) (N B : Nat → Int32) (a : PS) (i : Nat) : Prop :=
  PTb (ptN M f L N B i).1 (ptN M f L N B i).2 (psN X m a i).1 ∧ kN (ptN M f L N B i).1 8 = (psN X m a i).2.1 ∧ stoN (ptN M f L N B i).1 = nI (psN X m a i).2.2 ∧
  (∀ k, k < 4771 → ¬ k = 8 → ¬ (334 + 7 * M ≤ k ∧ k < 334 + 7 * M + i) → (ptN M f L N B i).1 k = N k) ∧
  ∀ j, j < i → pjN M f L N B j + 1 = (psN X m a (j + 1)).1 (soX X m j)
theorem si_step {i : Nat} (w : Wp N) (hM : M < 120) (hg : gdC f L) (h8 : kN N 8 ≤ 4 * M) (hi : i < kC f L) (hl : lC f L i = (ptL (soX X m i)).length) (hf : ∀ k, k < (ptL (soX X m i)).length → f (cC f L i + k) = chL (ptL (soX X m i)) k) (I : SI6 X m M f L N B a i) : SI6 X m M f L N B a (i + 1) := by
  obtain ⟨I1, I2, I3, I4, I5⟩ := I
  have so := soX_b X m i
  have lb := ptL_b _ so
  have g1 := hg.1
  obtain ⟨wi, k1, k2, -⟩ := ptN_w (B := B) w hM hg h8 i (by omega)
  obtain ⟨n1, n2⟩ := nb_fnd (f := f) (L := L) (j := i) I1 so hl hf
  have epj : pjN M f L N B i = nbC (ptN M f L N B i).1 (ptN M f L N B i).2 f L i := rfl
  rw [← epj] at n1 n2
  unfold SI6
  rw [ps_s]
  by_cases z : (psN X m a i).1 (soX X m i) = 0
  · -- new
    have e0 := n2 z
    obtain ⟨p1, p2, p3, ⟨p4, p5, p6, p7⟩, p8, p9⟩ := pt_new wi hM (by omega) (by omega) (by rw [hl]; omega) (by omega)
    have es : psS (psN X m a i) (soX X m i) = (updN (psN X m a i).1 (soX X m i) ((psN X m a i).2.1 + 1), (psN X m a i).2.1 + 1, (psN X m a i).2.2 + (ptL (soX X m i)).length) := if_pos z
    rw [es]
    have old : ∀ q, q < kN (ptN M f L N B i).1 8 → isN (ptN M f L N B (i + 1)).1 q = isN (ptN M f L N B i).1 q ∧ deN (ptN M f L N B (i + 1)).1 q = deN (ptN M f L N B i).1 q ∧ lenN (ptN M f L N B (i + 1)).1 q = lenN (ptN M f L N B i).1 q ∧ kN (ptN M f L N B (i + 1)).1 (4771 + 3 * q) = kN (ptN M f L N B i).1 (4771 + 3 * q) := fun q hq => by
      have e : ∀ y, y < 3 → (ptN M f L N B (i + 1)).1 (4771 + 3 * q + y) = (ptN M f L N B i).1 (4771 + 3 * q + y) := fun y hy => p3 _ (by omega) (by omega) (by omega)
      refine ⟨?_, ?_, ?_, ?_⟩
      · unfold isN; have := e 1 (by omega); rw [show 4771 + 3 * q + 1 = 4772 + 3 * q by omega] at this; exact this
      · unfold deN; have := e 2 (by omega); rw [show 4771 + 3 * q + 2 = 4773 + 3 * q by omega] at this; exact this
      · unfold lenN; exact e 0 (by omega)
      · unfold kN; rw [show (ptN M f L N B (i + 1)).1 (4771 + 3 * q) = _ from e 0 (by omega)]; rfl
    refine ⟨⟨fun s hs hz => ?_, fun q hq => ?_⟩, by rw [p2, I2], ?_, fun k h1 h2 h3 => ?_, fun j hj => ?_⟩
    · by_cases y : s = soX X m i
      · subst y
        have en : updN (psN X m a i).1 (soX X m i) ((psN X m a i).2.1 + 1) (soX X m i) - 1 = kN (ptN M f L N B i).1 8 := by rw [updN_e, I2]; omega
        show updN _ _ _ _ - 1 < _ ∧ IsP _ _ (updN _ _ _ _ - 1) _
        rw [en, p2]
        rw [p1] at p4 p5 p7
        exact ⟨by omega, p4, p5, by rw [p7, hl], fun k hk => by rw [p9 k (by rw [hl]; exact hk), hf k hk]⟩
      · have en : updN (psN X m a i).1 (soX X m i) ((psN X m a i).2.1 + 1) s = (psN X m a i).1 s := updN_n y
        have hz' : ¬ (psN X m a i).1 s = 0 := by rw [← en]; exact hz
        show updN _ _ _ _ - 1 < _ ∧ IsP _ _ (updN _ _ _ _ - 1) _
        rw [en, p2]
        obtain ⟨b1, b2, b3, b4, b5⟩ := I1.1 s hs hz'
        obtain ⟨o1, o2, o3, o4⟩ := old _ b1
        exact ⟨by omega, o1.trans b2, o2.trans b3, o4.trans b4, fun k hk => by
          have := (ptL_b s hs).2
          rw [p8 _ (by omega)]; exact b5 k hk⟩
    · rw [p2] at hq
      by_cases y : q = kN (ptN M f L N B i).1 8
      · exact ⟨soX X m i, so, by show updN _ _ _ _ = _; rw [updN_e, y, I2]⟩
      · obtain ⟨s, s1, s2⟩ := I1.2 q (by omega)
        refine ⟨s, s1, ?_⟩
        show updN _ _ _ _ = _
        rw [updN_n (fun e => by rw [e] at s2; omega)]
        exact s2
    · show runN _ (kN (ptN M f L N B (i + 1)).1 8) 0 0 = _
      rw [p2, runN_s, sto_s (N := (ptN M f L N B i).1) (fun q hq => ⟨(old q hq).1, (old q hq).2.2.1⟩), Nat.zero_add]
      rw [p1] at p4 p6
      rw [if_pos p4, p6]
      have I3' : runN (fun q (a : Int32) => if isN (ptN M f L N B i).1 q = 1 then a + lenN (ptN M f L N B i).1 q else a) (kN (ptN M f L N B i).1 8) 0 0 = nI (psN X m a i).2.2 := I3
      rw [I3', nI_add, hl]
    · rw [p3 k h2 (by omega) (by omega)]
      exact I4 k h1 h2 (by omega)
    · by_cases y : j = i
      · rw [y, p1, ps_s, es]
        show _ = updN _ _ _ _
        rw [updN_e, I2]
      · exact I5 j (by omega)
  · -- found
    obtain ⟨e0, e1⟩ := n1 z
    have es : psS (psN X m a i) (soX X m i) = psN X m a i := if_neg z
    rw [es]
    obtain ⟨b1, b2, b3, b4, b5⟩ := I1.1 _ so z
    obtain ⟨p1, p2, p3, p4, -⟩ := pt_found wi hM (by omega) (by omega)
    have pe := p4 (by rw [e0]; exact b3)
    have b8 := wi.1.2
    have old : ∀ q, q < kN (ptN M f L N B i).1 8 → isN (ptN M f L N B (i + 1)).1 q = isN (ptN M f L N B i).1 q ∧ lenN (ptN M f L N B (i + 1)).1 q = lenN (ptN M f L N B i).1 q ∧ kN (ptN M f L N B (i + 1)).1 (4771 + 3 * q) = kN (ptN M f L N B i).1 (4771 + 3 * q) := fun q hq => by
      obtain ⟨o1, o2, o3, -⟩ := p3 q (by omega)
      exact ⟨o1, o2, o3⟩
    have od : ∀ q, deN (ptN M f L N B (i + 1)).1 q = deN (ptN M f L N B i).1 q := fun q => by
      unfold deN
      rw [pe, upd_n (by omega)]
    refine ⟨⟨fun s hs hz => ?_, fun q hq => ?_⟩, by rw [p1, I2], ?_, fun k h1 h2 h3 => ?_, fun j hj => ?_⟩
    · obtain ⟨c1, c2, c3, c4, c5⟩ := I1.1 s hs hz
      obtain ⟨o1, o2, o3⟩ := old _ c1
      rw [p1, p2]
      exact ⟨c1, o1.trans c2, (od _).trans c3, o3.trans c4, c5⟩
    · rw [p1] at hq
      exact I1.2 q hq
    · show runN _ (kN (ptN M f L N B (i + 1)).1 8) 0 0 = _
      rw [p1, sto_s (N := (ptN M f L N B i).1) (fun q hq => ⟨(old q hq).1, (old q hq).2.1⟩)]
      exact I3
    · rw [pe, upd_n (by omega)]
      exact I4 k h1 h2 (by omega)
    · by_cases y : j = i
      · rw [y, ps_s, es, e0]
        omega
      · exact I5 j (by omega)
theorem si_all (w : Wp N) (hM : M < 120) (h8 : kN N 8 ≤ 4 * M) (h1 : PTb N B a.1) (h2 : kN N 8 = a.2.1) (h3 : stoN N = nI a.2.2) : ∀ i, i ≤ paX X m → SI6 X m M (chL (mtL X m)) (mtL X m).length N B a i := by
  intro i
  induction i with
  | zero => intro _; exact ⟨h1, h2, h3, fun k _ _ _ => rfl, fun j hj => by omega⟩
  | succ i ih => intro hi; exact si_step w hM mt_gd h8 (by rw [mt_k]; omega) (mt_l (by omega)) (fun k hk => mt_f (by omega) hk) (ih (by omega))
/-- numbers once given stay -/
theorem ps_mono {s : Nat} (h : ¬ a.1 s = 0) : ∀ i, (psN X m a i).1 s = a.1 s := by
  intro i
  induction i with
  | zero => rfl
  | succ i ih =>
    rw [ps_s]
    unfold psS
    by_cases z : (psN X m a i).1 (soX X m i) = 0
    · rw [if_pos z]
      show updN _ _ _ _ = _
      rw [updN_n (fun e => by rw [← e] at z; omega)]
      exact ih
    · rw [if_neg z]; exact ih
/-- the bytes with the new parts -/
theorem bw_le {b : Nat} (h8 : kN N 8 ≤ 480) (h3 : stoN N = nI b) : ∀ x, x ≤ paX X m → ∃ v, v ≤ b + 8 * x ∧ bwN N B (chL (mtL X m)) (mtL X m).length x = nI v := by
  intro x
  induction x with
  | zero => intro _; exact ⟨b, by omega, h3⟩
  | succ x ih =>
    intro hx
    obtain ⟨v, v1, v2⟩ := ih (by omega)
    have := (ptL_b _ (soX_b X m x)).2
    rw [bwN_s]
    by_cases z : fsC (chL (mtL X m)) (mtL X m).length x ∧ ¬ nbC N B (chL (mtL X m)) (mtL X m).length x < kN N 8
    · rw [pif_t z, v2, mt_l (by omega), nI_add]
      exact ⟨_, by omega, rfl⟩
    · rw [pif_f z]
      exact ⟨v, by omega, v2⟩
end Pst
