/-! what a delivery of the law does to the numbers -/
/-- how many of three bits -/
def bc8 (b : Nat) : Nat := b % 2 + b / 2 % 2 + b / 4 % 2
theorem tb8 : ∀ b, b < 8 → ∀ u, u < 3 → (b.testBit u = true ↔ b / 2 ^ u % 2 = 1) := by decide
theorem pif_bit {Q : Prop} {b u : Nat} (hb : b < 8) (hu : u < 3) (h : Q ↔ b.testBit u = true) : pif Q 1 0 = b / 2 ^ u % 2 := by
  have t := tb8 b hb u hu
  by_cases z : Q
  · rw [pif_t z, t.mp (h.mp z)]
  · rw [pif_f z]
    have : ¬ b / 2 ^ u % 2 = 1 := fun y => z (h.mpr (t.mpr y))
    omega
theorem cnt_bc {Q : Nat → Prop} {b x : Nat} (hx : x ≤ 3) (hb : b < 8) (h : ∀ u, u < 3 → (b.testBit u = true ↔ u < x ∧ Q u)) : cntP Q x = bc8 b := by
  have no : ∀ u, u < 3 → ¬ u < x → b / 2 ^ u % 2 = 0 := fun u hu hn => by
    have : ¬ b / 2 ^ u % 2 = 1 := fun y => hn ((h u hu).mp ((tb8 b hb u hu).mpr y)).1
    omega
  have yes : ∀ u, u < 3 → u < x → pif (Q u) 1 0 = b / 2 ^ u % 2 := fun u hu hl => pif_bit hb hu ⟨fun y => (h u hu).mpr ⟨hl, y⟩, fun y => ((h u hu).mp y).2⟩
  have c0 : cntP Q 0 = 0 := rfl
  unfold bc8
  rcases (by omega : x = 0 ∨ x = 1 ∨ x = 2 ∨ x = 3) with rfl | rfl | rfl | rfl
  · have n0 := no 0 (by omega) (by omega)
    have n1 := no 1 (by omega) (by omega)
    have n2 := no 2 (by omega) (by omega)
    rw [c0]; omega
  · have y0 := yes 0 (by omega) (by omega)
    have n1 := no 1 (by omega) (by omega)
    have n2 := no 2 (by omega) (by omega)
    rw [cntP_s, c0, y0]; omega
  · have y0 := yes 0 (by omega) (by omega)
    have y1 := yes 1 (by omega) (by omega)
    have n2 := no 2 (by omega) (by omega)
    rw [cntP_s, cntP_s, c0, y0, y1]; omega
  · have y0 := yes 0 (by omega) (by omega)
    have y1 := yes 1 (by omega) (by omega)
    have y2 := yes 2 (by omega) (by omega)
    rw [cntP_s, cntP_s, cntP_s, c0, y0, y1, y2]; omega
theorem bc8_b {b : Nat} : bc8 b ≤ 3 := by unfold bc8; omega
section Af
variable {X : XS} {S : St} {n : Nat} {N B : Nat → Int32} {P : PS} {us ab : Nat → Nat} {many ev m : Nat}
/-- who keeps the message -/
def rdX (X : XS) (m b u : Nat) : Prop := (reX X m &&& (1023 ^^^ b)).testBit u = true
theorem rd_iff {b u : Nat} (hb : b < 8) : rdX X m b u ↔ (reX X m).testBit u = true ∧ ¬ b.testBit u = true := by
  unfold rdX
  by_cases z : u < 10
  · rw [rest_tb z]
    cases (reX X m).testBit u <;> cases b.testBit u <;> simp
  · have r := re_lt (X := X) (m := m)
    have e1 : (reX X m).testBit u = false := tb_hi (by omega) z
    rw [Nat.testBit_and, e1]
    simp
theorem rd_lt {b u : Nat} (hb : b < 8) (h : rdX X m b u) : u < usX X := re_tb ((rd_iff hb).mp h).1
/-- the new numbers -/
noncomputable def afX (X : XS) (m : Nat) (N B : Nat → Int32) : Nat → Int32 := afN N B (chL (mtL X m)) (mtL X m).length 0 (reX X m) (spI X m)
noncomputable def afY (X : XS) (m : Nat) (N B : Nat → Int32) : Nat → Int32 := afB N B (chL (mtL X m)) (mtL X m).length (reX X m)
noncomputable def bX (X : XS) (m : Nat) (N : Nat → Int32) : Nat := bN N (reX X m) (siX X m)
/-- the class that the law names -/
def clI (X : XS) (m u : Nat) : Int32 := if spI X m = -1 then nI (coX X u) else spI X m
theorem spI_c (h3 : kN N 3 = clX X) : spI X m = -1 ∨ ∃ cc, spI X m = nI cc ∧ cc < kN N 3 := by
  have := spX_b X m
  unfold spI
  by_cases z : spX X m = 0
  · rw [if_pos z]; exact Or.inl rfl
  · rw [if_neg z]; exact Or.inr ⟨_, rfl, by omega⟩
theorem af_all (hx : FxF S) (g : Cl S n 27 N B) (h : LN X N B P us ab many ev) (hm : many < 120) (he : ev + 4 ≤ 60) (hus : ∀ u, u < usX X → us u ≤ 1000) :
    afX X m N B 10 = nI (bX X m N) ∧ (bX X m N = reX X m → LN X (afX X m N B) (afY X m N B) P us ab many (ev + bc8 (bX X m N))) ∧
    (¬ bX X m N = reX X m → LN X (afX X m N B) (afY X m N B) (psN X m P (paX X m)) (fun u => pif (rdX X m (bX X m N) u) (us u + siX X m) (us u)) (fun u => pif (rdX X m (bX X m N) u ∧ abX X m) (ab u + 1) (ab u)) (many + 1) (ev + bc8 (bX X m N) + 1) ∧
      ∃ cl, (∀ u, u < usX X → cl u = clI X m u) ∧ NM X m many P (rdX X m (bX X m N)) cl (afX X m N B)) := by
  have ux := usX_b X
  have rl := re_lt (X := X) (m := m)
  have k4 := h.1.2.1
  have wb := g.c0.wb
  obtain ⟨b1, b2⟩ := bo_b (m := m) h hus
  have b1' : bX X m N < 8 := b1
  have b2' : ∀ u, (bX X m N).testBit u = true ↔ u < usX X ∧ boP X m us u := b2
  obtain ⟨T1, -, t2, -⟩ := e_bounce (F := 1000) (r := reX X m) (sz := siX X m) g hx.sp27 (by omega) (Nat.le_refl _)
  have W1 : WF (b10 N (reX X m) (siX X m)) B := (t2.ten (nI (bN N (reX X m) (siX X m)))).wf
  have cnt : cntP (bnP N (reX X m) (siX X m)) (kN N 4) = bc8 (bX X m N) := cnt_bc (by omega) b1' (fun u hu => by
    rw [b2' u, k4]
    exact ⟨fun y => ⟨y.1, (bo_iff h y.1 (hus u y.1)).mpr y.2⟩, fun y => ⟨y.1, (bo_iff h y.1 (hus u y.1)).mp y.2⟩⟩)
  have e9 : b10 N (reX X m) (siX X m) 9 = nI (ev + bc8 (bX X m N)) := by
    have := (bn_ev (N := N) (Q := bnP N (reX X m) (siX X m)) h.2.2.1.2 (kN N 4) (by omega)).1
    rw [cnt] at this
    unfold b10
    rw [upd_n (by omega)]
    exact this
  have L1 : LN X (b10 N (reX X m) (siX X m)) B P us ab many (ev + bc8 (bX X m N)) := h.c wb (fun k x y z => b10_n x y z) e9
  have ten : b10 N (reX X m) (siX X m) 10 = nI (bX X m N) := upd_e _ _ _
  have bc := bc8_b (b := bX X m N)
  have sz := mt_sz (X := X) (m := m)
  by_cases z : bX X m N = reX X m
  · have eN : afX X m N B = b10 N (reX X m) (siX X m) := by
      unfold afX afN
      rw [sz]
      exact if_pos z
    have eB : afY X m N B = B := by
      unfold afY afB
      rw [sz]
      exact if_pos z
    rw [eN, eB]
    exact ⟨ten, fun _ => L1, fun y => absurd z y⟩
  · have k7 : kN N 7 = many := h.2.2.1.1
    have eN : afX X m N B = nwX X m many (b10 N (reX X m) (siX X m)) B (rdX X m (bX X m N)) (fun u => if spI X m = -1 then b10 N (reX X m) (siX X m) (83 + 8 * u) else spI X m) := by
      unfold afX afN
      rw [sz, k7]
      exact if_neg z
    have eB : afY X m N B = nwY X m many (b10 N (reX X m) (siX X m)) B := by
      unfold afY afB
      rw [sz, k7, mt_k]
      exact if_neg z
    rw [eN, eB]
    have sub : ∀ u, u < 10 → (bX X m N).testBit u = true → (reX X m).testBit u = true := fun u _ y => ((b2' u).mp y).2.1
    obtain ⟨u0, -, u2⟩ := rest_ex (rec := reX X m) (b := bX X m N) (by omega) (by omega) sub z
    have w8 : kN (b10 N (reX X m) (siX X m)) 8 ≤ 4 * many := by
      have := W1.2.1.2.2.2.2.2.2.2
      rw [L1.2.2.1.1] at this
      exact this
    obtain ⟨q1, q2⟩ := nw_all (X := X) (m := m) (rd := rdX X m (bX X m N)) (cl := fun u => if spI X m = -1 then b10 N (reX X m) (siX X m) (83 + 8 * u) else spI X m) L1 W1 hm (by omega) ⟨u0, rd_lt b1' u2, u2⟩
    refine ⟨?_, fun y => absurd y z, fun _ => ⟨q1, _, fun u hu => ?_, q2⟩⟩
    · show lgN (nwN many 0 (chL (mtL X m)) (mtL X m).length _ B _ _) 1 (nI many) 10 = _
      rw [lgN_lo (by omega) (by omega), nw_lo W1.wp hm mt_gd w8 (by omega) (by omega) (by omega) (by omega)]
      exact ten
    · show (if spI X m = -1 then b10 N (reX X m) (siX X m) (83 + 8 * u) else spI X m) = clI X m u
      unfold clI
      rw [(L1.1.2.2.1 u hu).1]
end Af
