/-! sets of users, and the bounces -/
theorem nI_ofN (x : Int32) : nI x.toBitVec.toNat = x := Int32.toBitVec_inj.mp (by
  show BitVec.ofNat 32 _ = _
  rw [BitVec.ofNat_toNat, BitVec.setWidth_eq])
theorem nI_tb {a i : Nat} : (nI a).toBitVec.getLsbD i = (decide (i < 32) && a.testBit i) := by
  show (BitVec.ofNat 32 a).getLsbD i = _
  rw [BitVec.getLsbD_ofNat]
theorem not_tb {m i : Nat} : (nI m ^^^ (-1) : Int32).toBitVec.getLsbD i = (decide (i < 32) && !m.testBit i) := by
  rw [Int32.toBitVec_xor, BitVec.getLsbD_xor, nI_tb, show ((-1 : Int32)).toBitVec = BitVec.allOnes 32 by decide, BitVec.getLsbD_allOnes]
  by_cases h : i < 32
  · simp [h]
  · simp [h]
theorem off_eq (a b : Nat) (ha : a < 1024) : nI a &&& (nI b ^^^ (-1)) = nI (a &&& (1023 ^^^ b)) := by
  apply Int32.toBitVec_inj.mp
  apply BitVec.eq_of_getLsbD_eq
  intro i hi
  rw [Int32.toBitVec_and, BitVec.getLsbD_and, nI_tb, not_tb, nI_tb, Nat.testBit_and, Nat.testBit_xor]
  by_cases h : i < 10
  · have e : (1023 : Nat).testBit i = true := by
      rw [show 1023 = 2 ^ 10 - 1 from rfl, Nat.testBit_two_pow_sub_one]
      exact decide_eq_true h
    rw [e]
    simp [hi]
  · have e : a.testBit i = false := Nat.testBit_lt_two_pow (Nat.lt_of_lt_of_le ha (show 2 ^ 10 ≤ 2 ^ i from Nat.pow_le_pow_right (by omega) (by omega)))
    rw [e]
    simp
theorem all10 : ∀ u, u < 11 → ((1 : Int32) <<< (nI u &&& 31)) - 1 = nI (2 ^ u - 1) := by decide +kernel
/-- a set of users that there are -/
theorem areU {x : Int32} {U : Nat} (hU : U ≤ 10) : x &&& (nI (2 ^ U - 1) ^^^ (-1)) = 0 ↔ ∃ r, x = nI r ∧ r < 2 ^ U := by
  constructor
  · intro h
    refine ⟨x.toBitVec.toNat, (nI_ofN x).symm, ?_⟩
    apply Nat.lt_pow_two_of_testBit
    intro i hi
    have e := congrArg (fun y : Int32 => y.toBitVec.getLsbD i) h
    have e' : (x &&& (nI (2 ^ U - 1) ^^^ (-1))).toBitVec.getLsbD i = (0 : Int32).toBitVec.getLsbD i := e
    rw [Int32.toBitVec_and, BitVec.getLsbD_and, not_tb, Nat.testBit_two_pow_sub_one, show ((0 : Int32)).toBitVec = 0#32 by decide, BitVec.getLsbD_zero] at e'
    by_cases h32 : i < 32
    · have d : decide (i < U) = false := decide_eq_false (by omega)
      rw [d] at e'
      simp [h32] at e'
      exact e'
    · exact Nat.testBit_lt_two_pow (Nat.lt_of_lt_of_le x.toBitVec.isLt (Nat.pow_le_pow_right (by omega) (by omega)))
  · rintro ⟨r, rfl, hr⟩
    apply Int32.toBitVec_inj.mp
    apply BitVec.eq_of_getLsbD_eq
    intro i hi
    rw [Int32.toBitVec_and, BitVec.getLsbD_and, nI_tb, not_tb, Nat.testBit_two_pow_sub_one, show ((0 : Int32)).toBitVec = 0#32 by decide, BitVec.getLsbD_zero]
    by_cases h : i < U
    · simp [h]
    · have e : r.testBit i = false := Nat.testBit_lt_two_pow (Nat.lt_of_lt_of_le hr (Nat.pow_le_pow_right (by omega) (by omega)))
      rw [e]
      simp
section Us
variable {F : Nat} {S : St} {B : Nat → Int32}
abbrev inU (N : Nat → Int32) (x : Int32) : Prop := x &&& (nI (2 ^ kN N 4 - 1) ^^^ (-1)) = 0
theorem e_allUsers {n : Nat} {N : Nat → Int32} (C : Cl0 S n 27 N B) : ∃ r, sr S 700 27 = some r ∧ f_X7_allUsers F S r = some (nI (2 ^ kN N 4 - 1), S) := by
  have b4 := C.wb.n4.2
  obtain ⟨r, h1, h2, h3⟩ := e_users C
  refine ⟨r, h1, ?_⟩
  unfold f_X7_allUsers
  rw [h2, ob_some, h3, all10 _ (by omega)]
end Us
/-- the bounces -/
noncomputable def bnN (P : Nat → Prop) (N : Nat → Int32) (x : Nat) : (Nat → Int32) × Nat := runN (fun u a => pif (P u) (lgN a.1 2 (nI u), a.2 ||| 2 ^ u) a) x 0 (N, 0)
theorem bnN_s {P : Nat → Prop} {N : Nat → Int32} {x : Nat} : bnN P N (x + 1) = pif (P x) (lgN (bnN P N x).1 2 (nI x), (bnN P N x).2 ||| 2 ^ x) (bnN P N x) := by
  unfold bnN
  rw [runN_s, Nat.zero_add]
/-- a recipient whose quota is too small -/
def bnP (N : Nat → Int32) (r sz u : Nat) : Prop := r.testBit u = true ∧ ¬ usN N u + nI sz ≤ N (84 + 8 * u)
section Bn
variable {F : Nat} {S : St} {n : Nat} {N B : Nat → Int32} {r sz : Nat}
theorem bn_c {P : Nat → Prop} : ∀ x, EqC N (bnN P N x).1 := by
  intro x
  induction x with
  | zero => exact EqC.rf N
  | succ x ih =>
    rw [bnN_s]
    by_cases z : P x
    · rw [pif_t z]; exact ih.tr (fun k h1 h9 => lgN_lo h1 h9)
    · rw [pif_f z]; exact ih
theorem bn_9 {P : Nat → Prop} (h : isCnt N 9 60) : ∀ x, isCnt (bnN P N x).1 9 60 := by
  intro x
  induction x with
  | zero => exact h
  | succ x ih =>
    rw [bnN_s]
    by_cases z : P x
    · rw [pif_t z]; exact lgN_9 ih
    · rw [pif_f z]; exact ih
theorem bn_b {P : Nat → Prop} : ∀ x, x ≤ 10 → (bnN P N x).2 < 1024 ∧ ∀ u, u < 10 → ((bnN P N x).2.testBit u = true ↔ u < x ∧ P u) := by
  intro x
  induction x with
  | zero => intro _; exact ⟨by show (0 : Nat) < 1024; omega, fun u _ => by show Nat.testBit 0 u = true ↔ _; simp⟩
  | succ x ih =>
    intro hx
    obtain ⟨i1, i2⟩ := ih (by omega)
    rw [bnN_s]
    by_cases z : P x
    · rw [pif_t z]
      refine ⟨Nat.or_lt_two_pow (n := 10) i1 (Nat.pow_lt_pow_right (by omega) (by omega)), fun u hu => ?_⟩
      show Nat.testBit ((bnN P N x).2 ||| 2 ^ x) u = true ↔ _
      rw [Nat.testBit_or, Bool.or_eq_true, i2 u hu, Nat.testBit_two_pow, decide_eq_true_eq]
      constructor
      · rintro (y | y)
        · exact ⟨by omega, y.2⟩
        · exact ⟨by omega, by rw [← y]; exact z⟩
      · rintro ⟨y1, y2⟩
        by_cases e : u = x
        · exact Or.inr e.symm
        · exact Or.inl ⟨by omega, y2⟩
    · rw [pif_f z]
      refine ⟨i1, fun u hu => (i2 u hu).trans ⟨fun y => ⟨by omega, y.2⟩, fun y => ⟨?_, y.2⟩⟩⟩
      by_cases e : u = x
      · rw [e] at y; exact absurd y.2 z
      · omega
theorem EqC.us (h : EqC N B) {C : Nat → Int32} (w : WB N C) {u : Nat} (hu : u < 10) : usN B u = usN N u := by
  have b7 := w.n7.2
  unfold usN
  rw [h.kn (k := 7) (by omega) (by omega)]
  refine runN_e (fun m a hm => ?_)
  have e : szN B m = szN N m := h.sz w hm
  rw [h.st (by omega) hu, e]
theorem e_bounce (g : Cl S n 27 N B) (hs : SpF S 27) (hr : r < 1024) (hF : 1000 ≤ F) : ∃ T, f_X8_bounce F S 27 (nI r) (nI sz) = some (nI (bnN (bnP N r sz) N (kN N 4)).2, T) ∧ Cl T n 27 (bnN (bnP N r sz) N (kN N 4)).1 B ∧ (∀ i, ¬ (40 ≤ i ∧ i ≤ 43) → SameO S T i) ∧ (∀ f i, sr T f i = sr S f i) ∧ ln T = ln S := by
  have w := g.c0.wb
  have b4 := w.n4.2
  have loop : ∀ d u fu T, u + d = kN N 4 → d < fu → Cl T n 27 (bnN (bnP N r sz) N u).1 B → (∀ i, ¬ (40 ≤ i ∧ i ≤ 43) → SameO S T i) → (∀ f i, sr T f i = sr S f i) → ln T = ln S → ∃ T', f_X8_bounce_L5 F fu T 27 (nI r) (nI sz) (nI (bnN (bnP N r sz) N u).2) (nI u) = some (nI (bnN (bnP N r sz) N (kN N 4)).2, T') ∧ Cl T' n 27 (bnN (bnP N r sz) N (kN N 4)).1 B ∧ (∀ i, ¬ (40 ≤ i ∧ i ≤ 43) → SameO S T' i) ∧ (∀ f i, sr T' f i = sr S f i) ∧ ln T' = ln S := by
    intro d
    induction d with
    | zero =>
      intro u fu T hu hfu g m1 m2 m3
      obtain ⟨fu, rfl⟩ : ∃ f', fu = f' + 1 := ⟨fu - 1, by omega⟩
      have : u = kN N 4 := by omega
      subst this
      obtain ⟨r', q1, q2, q3⟩ := e_users g.c0
      rw [(bn_c _).kn (by omega) (by omega)] at q3
      refine ⟨T, ?_, g, m1, m2, m3⟩
      unfold f_X8_bounce_L5
      rw [q1, ob_some, q2, ob_some, q3, if_pos (nI_le (Nat.le_refl _) (by omega))]
    | succ d ih =>
      intro u fu T hu hfu g m1 m2 m3
      obtain ⟨fu, rfl⟩ : ∃ f', fu = f' + 1 := ⟨fu - 1, by omega⟩
      have hsT := hs.frm m2 m3
      have ec := bn_c (N := N) (P := bnP N r sz) u
      have k4 : kN (bnN (bnP N r sz) N u).1 4 = kN N 4 := ec.kn (by omega) (by omega)
      obtain ⟨r', q1, q2, q3⟩ := e_users g.c0
      rw [k4] at q3
      have next : ¬ bnP N r sz u → ∃ T', f_X8_bounce_L70 F (fun a0 a1 a2 a3 a4 a5 => f_X8_bounce_L5 F fu a0 a1 a2 a3 a4 a5) T 27 (nI r) (nI sz) (nI (bnN (bnP N r sz) N u).2) (nI u) = some (nI (bnN (bnP N r sz) N (kN N 4)).2, T') ∧ Cl T' n 27 (bnN (bnP N r sz) N (kN N 4)).1 B ∧ (∀ i, ¬ (40 ≤ i ∧ i ≤ 43) → SameO S T' i) ∧ (∀ f i, sr T' f i = sr S f i) ∧ ln T' = ln S := by
        intro z
        have e : bnN (bnP N r sz) N (u + 1) = bnN (bnP N r sz) N u := by rw [bnN_s, pif_f z]
        obtain ⟨T', t1, t2⟩ := ih (u + 1) fu T (by omega) (by omega) (by rw [e]; exact g) m1 m2 m3
        rw [e] at t1
        refine ⟨T', ?_, t2⟩
        unfold f_X8_bounce_L70
        rw [lt_eq, nI_1]
        exact t1
      unfold f_X8_bounce_L5
      rw [q1, ob_some, q2, ob_some, q3, if_neg (nI_ge (by omega) (by omega)), e_hasBit F T hr (by omega), ob_some]
      simp only [lt_eq, eq_bI]
      by_cases z : r.testBit u = true
      rotate_left
      · rw [if_neg z]
        exact next (fun y => z y.1)
      have us : usN (bnN (bnP N r sz) N u).1 u = usN N u := ec.us w (by omega)
      have qu : ai T (27 + 1) u = N (84 + 8 * u) := (g.c0.qu u (by omega)).trans (ec _ (by omega) (by omega))
      rw [if_pos z, e_usage g.c0 hsT (by omega) hF, ob_some, us]
      simp only [lt_eq]
      rw [hsT.r704_0, ob_some, e_at (by rw [hsT.l1]; omega) (by rw [hsT.l1]; omega), ob_some, qu]
      simp only [lt_eq]
      by_cases z2 : usN N u + nI sz ≤ N (84 + 8 * u)
      · rw [if_pos z2]
        exact next (fun y => y.2 z2)
      · have bp : bnP N r sz u := ⟨z, z2⟩
        have e : bnN (bnP N r sz) N (u + 1) = (lgN (bnN (bnP N r sz) N u).1 2 (nI u), (bnN (bnP N r sz) N u).2 ||| 2 ^ u) := by rw [bnN_s, pif_t bp]
        obtain ⟨T1, p1, p2, p3, p4, p5⟩ := g.note (F := F) (by omega) hsT 2 (nI u)
        obtain ⟨T', t1, t2⟩ := ih (u + 1) fu T1 (by omega) (by omega) (by rw [e]; exact p2) (fun i hi => (m1 i hi).tr (p3 i (by omega))) (fun f i => (p4 f i).trans (m2 f i)) (p5.trans m3)
        rw [e] at t1
        refine ⟨T', ?_, t2⟩
        rw [if_neg z2, hsT.r711_0, ob_some, g.c0.s701, p1, ob_some, bit10 u (by omega), nI_or]
        unfold f_X8_bounce_L70
        rw [lt_eq, nI_1]
        exact t1
  unfold f_X8_bounce
  exact loop (kN N 4) 0 F S (by omega) (by omega) g (fun i _ => SameO.rf S i) (fun _ _ => rfl) rfl
end Bn
