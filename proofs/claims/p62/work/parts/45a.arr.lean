/-! the law's arrays beside the class -/
def AS (S : St) (n a : Nat) (N : Nat → Int32) : Prop := 197 ≤ a ∧ a + 3 ≤ n ∧ (ln S a = 6 ∧ ln S (a + 1) = 3 ∧ ln S (a + 2) = 3) ∧ (∃ r, sr S 700 27 = some r ∧ r + 19 ≤ a) ∧ ∀ m j, m < kN N 7 → ar S 29 m = some j → a + 3 ≤ j
section Ar
variable {S T : St} {n nT a i k : Nat} {N N' B B' : Nat → Int32} {v : Int32} {X : XS} {P : PS} {us ab : Nat → Nat} {many ev m : Nat}
theorem ai_o {x : Nat} (h : ¬ x = i) : ai (uai S i k v) x = ai S x := (SameO.uai (S := S) v h).row
/-- no part is as long as an array -/
def nl63 (N : Nat → Int32) : Prop := ∀ q, q < kN N 8 → ¬ kN N (4771 + 3 * q) = 6 ∧ ¬ kN N (4771 + 3 * q) = 3
theorem pt_len : ∀ s, s < 6 → ¬ (ptL s).length = 6 ∧ ¬ (ptL s).length = 3 := by decide
theorem LN.nl (h : LN X N B P us ab many ev) : nl63 N := fun q hq => by
  obtain ⟨s, s1, s2⟩ := h.2.1.1.2 q hq
  have := (h.2.1.1.1 s s1 (by omega)).2.2.2.1
  rw [show P.1 s - 1 = q by omega] at this
  rw [this]
  exact pt_len s s1
theorem RQ.uai (rq : RQ S n N B) (as : AS S n a N) (nl : nl63 N) (hi : i = a ∨ i = a + 1 ∨ i = a + 2) : RQ (uai S i k v) n N B := by
  obtain ⟨c1, c2, c3, cl⟩ := rq
  obtain ⟨a1, a2, a3, ⟨r0, r1, r2⟩, a5⟩ := as
  obtain ⟨C1, ⟨r, C2, C3, C4⟩, C5, C8, C11, C12, C13, C14, C15, C16⟩ := cl
  have er : r = r0 := by rw [r1] at C2; exact (Option.some.inj C2).symm
  have li : ln S i = 6 ∨ ln S i = 3 := by rcases hi with y | y | y <;> rw [y] <;> omega
  refine ⟨c1, c2.agr (fun _ _ _ _ => rfl) (fun _ _ => rfl) rfl, c3, C1, ⟨r, C2, C3, C4.agr (fun x b1 b2 => SameO.uai _ (by omega))⟩, C5, C8, fun u hu => ?_, fun m hm => ?_, fun m u hm hu => ?_, ⟨C14.1, fun q hq => ?_⟩, C15.agr (fun x b1 b2 => SameO.uai _ (by omega)), C16⟩
  · rw [ai_o (by omega)]; exact C11 u hu
  · obtain ⟨j, x1, x2, x3, x4, x5, x6, x7, x8, x9⟩ := C12 m hm
    have := a5 m j hm x1
    exact ⟨j, x1, x2, x3, x4, x5, x6, x7, by rw [ai_o (by omega)]; exact x8, x9⟩
  · rw [ai_o (by omega), ai_o (by omega), ai_o (by omega)]; exact C13 m u hm hu
  · obtain ⟨⟨j, x1, x2, x3, x4, x5, x6⟩, y1, y2, y3⟩ := C14.2 q hq
    have := nl q hq
    have ji : ¬ j + 1 = i := fun y => by rw [← y] at li; omega
    rw [ai_o (show ¬ 27 + 8 = i by omega), ai_o (show ¬ 27 + 9 = i by omega), ai_o (show ¬ 27 + 10 = i by omega)]
    exact ⟨⟨j, x1, x2, x3, x4, x5, by rw [ai_o ji]; exact x6⟩, y1, y2, y3⟩
theorem AS.uai (as : AS S n a N) : AS (uai S i k v) n a N := as
theorem AS.to (as : AS S n a N) (hn : n ≤ nT) (so : ∀ k, 197 ≤ k → k < n → SameO S T k) (s7 : sr T 700 27 = sr S 700 27) (hm : ∀ m j, m < kN N' 7 → ar T 29 m = some j → (m < kN N 7 ∧ ar S 29 m = some j) ∨ a + 3 ≤ j) : AS T nT a N' := by
  obtain ⟨a1, a2, ⟨l0, l1, l2⟩, ⟨r0, r1, r2⟩, a5⟩ := as
  refine ⟨a1, by omega, ⟨by rw [(so a a1 (by omega)).2.2.2.2.2]; exact l0, by rw [(so (a + 1) (by omega) (by omega)).2.2.2.2.2]; exact l1, by rw [(so (a + 2) (by omega) (by omega)).2.2.2.2.2]; exact l2⟩, ⟨r0, s7.trans r1, r2⟩, fun m j h1 h2 => ?_⟩
  rcases hm m j h1 h2 with ⟨y1, y2⟩ | y
  · exact a5 m j y1 y2
  · exact y
/-- a number as the law keeps it -/
def nuI (k : Nat) : Int32 := if k = 0 then -1 else nI (k - 1)
theorem nu_neg {k : Nat} (h : k < 2 ^ 31) : (0 : Int32) ≤ nuI k ↔ ¬ k = 0 := by
  unfold nuI
  by_cases z : k = 0
  · rw [if_pos z]; exact ⟨fun y => absurd y (by decide), fun y => absurd z y⟩
  · rw [if_neg z]; exact ⟨fun _ => z, fun _ => nI_pos' (by omega)⟩
/-- the class, the arrays' places, the empty buffer -/
def CS (S : St) (n a : Nat) (N B : Nat → Int32) : Prop := RQ S n N B ∧ AS S n a N ∧ nl63 N ∧ si S 1 20 = 0
theorem CS.uai (c : CS S n a N B) (hi : i = a ∨ i = a + 1 ∨ i = a + 2) : CS (uai S i k v) n a N B := ⟨c.1.uai c.2.1 c.2.2.1 hi, c.2.1.uai, c.2.2.1, c.2.2.2⟩
theorem CS.fx (c : CS S n a N B) : FxF S := c.1.2.1
theorem CS.cl (c : CS S n a N B) : Cl S n 27 N B := c.1.2.2.2
def Av (S : St) (a : Nat) (nu us ab : Nat → Nat) : Prop := (∀ s, s < 6 → ai S a s = nuI (nu s)) ∧ (∀ u, u < 3 → ai S (a + 1) u = nI (us u)) ∧ ∀ u, u < 3 → ai S (a + 2) u = nI (ab u)
theorem Av.nuw {nu : Nat → Nat} {s q : Nat} (h : Av S a nu us ab) (hs : s < 6) (hv : v = nuI q) : Av (uai S a s v) a (updN nu s q) us ab := by
  refine ⟨fun t ht => ?_, fun u hu => by rw [ai_o (by omega)]; exact h.2.1 u hu, fun u hu => by rw [ai_o (by omega)]; exact h.2.2 u hu⟩
  rw [ai_uai]
  by_cases z : t = s
  · rw [if_pos ⟨rfl, z⟩, z, updN_e]; exact hv
  · rw [if_neg (fun y => z y.2), updN_n z]; exact h.1 t ht
theorem Av.usw {nu : Nat → Nat} {u q : Nat} (h : Av S a nu us ab) (hu : u < 3) (hv : v = nI q) : Av (uai S (a + 1) u v) a nu (updN us u q) ab := by
  refine ⟨fun t ht => by rw [ai_o (by omega)]; exact h.1 t ht, fun t ht => ?_, fun t ht => by rw [ai_o (by omega)]; exact h.2.2 t ht⟩
  rw [ai_uai]
  by_cases z : t = u
  · rw [if_pos ⟨rfl, z⟩, z, updN_e]; exact hv
  · rw [if_neg (fun y => z y.2), updN_n z]; exact h.2.1 t ht
theorem Av.abw {nu : Nat → Nat} {u q : Nat} (h : Av S a nu us ab) (hu : u < 3) (hv : v = nI q) : Av (uai S (a + 2) u v) a nu us (updN ab u q) := by
  refine ⟨fun t ht => by rw [ai_o (by omega)]; exact h.1 t ht, fun t ht => by rw [ai_o (by omega)]; exact h.2.1 t ht, fun t ht => ?_⟩
  rw [ai_uai]
  by_cases z : t = u
  · rw [if_pos ⟨rfl, z⟩, z, updN_e]; exact hv
  · rw [if_neg (fun y => z y.2), updN_n z]; exact h.2.2 t ht
theorem Av.to {nu : Nat → Nat} (h : Av S a nu us ab) (so : ∀ k, a ≤ k → k < a + 3 → SameO S T k) : Av T a nu us ab := ⟨fun s hs => by rw [(so a (by omega) (by omega)).row]; exact h.1 s hs, fun s hs => by rw [(so (a + 1) (by omega) (by omega)).row]; exact h.2.1 s hs, fun s hs => by rw [(so (a + 2) (by omega) (by omega)).row]; exact h.2.2 s hs⟩
end Ar
/-! bits of the law -/
theorem sh_bit : ∀ c, c < 8 → ∀ u, u < 3 → (((nI c >>> (nI u &&& 31)) &&& 1) = 1 ↔ c.testBit u = true) := by decide +kernel
theorem or_bit : ∀ c, c < 8 → ∀ u, u < 3 → nI c ||| ((1 : Int32) <<< (nI u &&& 31)) = nI (c ||| 2 ^ u) := by decide +kernel
theorem e_bc8 (F : Nat) (S : St) {b : Nat} (hb : b < 8) : f_J6_bitCount_0f7a4 F S (nI b) = some (nI (bc8 b), S) := by
  rcases (by omega : b = 0 ∨ b = 1 ∨ b = 2 ∨ b = 3 ∨ b = 4 ∨ b = 5 ∨ b = 6 ∨ b = 7) with rfl | rfl | rfl | rfl | rfl | rfl | rfl | rfl <;> rfl
/-! the sorts that are not stored yet -/
def rm6 (nu : Nat → Nat) : Nat := (if nu 0 = 0 then (ptL 0).length else 0) + (if nu 1 = 0 then (ptL 1).length else 0) + (if nu 2 = 0 then (ptL 2).length else 0) + (if nu 3 = 0 then (ptL 3).length else 0) + (if nu 4 = 0 then (ptL 4).length else 0) + (if nu 5 = 0 then (ptL 5).length else 0)
theorem rm6_s {nu : Nat → Nat} {s q : Nat} (hs : s < 6) (hz : nu s = 0) : rm6 (updN nu s (q + 1)) + (ptL s).length = rm6 nu := by
  have e : ∀ t, ¬ t = s → updN nu s (q + 1) t = nu t := fun t h => updN_n h
  have e0 : updN nu s (q + 1) s = q + 1 := updN_e _ _ _
  unfold rm6
  rcases (by omega : s = 0 ∨ s = 1 ∨ s = 2 ∨ s = 3 ∨ s = 4 ∨ s = 5) with rfl | rfl | rfl | rfl | rfl | rfl
  · rw [e0, e 1 (by omega), e 2 (by omega), e 3 (by omega), e 4 (by omega), e 5 (by omega), if_neg (show ¬ q + 1 = 0 by omega), if_pos hz]; omega
  · rw [e0, e 0 (by omega), e 2 (by omega), e 3 (by omega), e 4 (by omega), e 5 (by omega), if_neg (show ¬ q + 1 = 0 by omega), if_pos hz]; omega
  · rw [e0, e 0 (by omega), e 1 (by omega), e 3 (by omega), e 4 (by omega), e 5 (by omega), if_neg (show ¬ q + 1 = 0 by omega), if_pos hz]; omega
  · rw [e0, e 0 (by omega), e 1 (by omega), e 2 (by omega), e 4 (by omega), e 5 (by omega), if_neg (show ¬ q + 1 = 0 by omega), if_pos hz]; omega
  · rw [e0, e 0 (by omega), e 1 (by omega), e 2 (by omega), e 3 (by omega), e 5 (by omega), if_neg (show ¬ q + 1 = 0 by omega), if_pos hz]; omega
  · rw [e0, e 0 (by omega), e 1 (by omega), e 2 (by omega), e 3 (by omega), e 4 (by omega), if_neg (show ¬ q + 1 = 0 by omega), if_pos hz]; omega
theorem ps_rm {X : XS} {m : Nat} {a : PS} (h : a.2.2 + rm6 a.1 = 25) : ∀ i, (psN X m a i).2.2 + rm6 (psN X m a i).1 = 25 := by
  intro i
  induction i with
  | zero => exact h
  | succ i ih =>
    rw [ps_s]
    unfold psS
    by_cases z : (psN X m a i).1 (soX X m i) = 0
    · rw [if_pos z]
      have := rm6_s (q := (psN X m a i).2.1) (soX_b X m i) z
      show (psN X m a i).2.2 + (ptL (soX X m i)).length + rm6 (updN (psN X m a i).1 (soX X m i) ((psN X m a i).2.1 + 1)) = 25
      omega
    · rw [if_neg z]; exact ih
