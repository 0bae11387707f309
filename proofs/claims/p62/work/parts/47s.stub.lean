/-! STUB: the interface of 50a and 51, for quick rounds -/
noncomputable def shN (N : Nat → Int32) (u x : Nat) : UInt64 := runN (fun q v => pif (rdP N u q) (FP.dadd v (FP.ddiv (FP.i2d (lenN N q)) (FP.i2d (nI (rdK N q))))) v) x 0 FP.dconst0
theorem shN_s {N : Nat → Int32} {u x : Nat} : shN N u (x + 1) = pif (rdP N u x) (FP.dadd (shN N u x) (FP.ddiv (FP.i2d (lenN N x)) (FP.i2d (nI (rdK N x))))) (shN N u x) := by
  unfold shN
  rw [runN_s, Nat.zero_add]
theorem e_fair {F : Nat} {S : St} {n : Nat} {N B : Nat → Int32} (hx : FxF S) (C : Cl0 S n 27 N B) (R : RowB N (ai S 196) (fun u q => rdP N u q)) {u : Nat} (hu : u < kN N 4) (hF : 1000 ≤ F) : f_X10_fairShare_L21 F F S 0 (nI u) FP.dconst0 0 = some (.inr (shN N u (kN N 8)), S) := sorry
def near (x : UInt64) (T e : Int) : Prop := x = x ∧ T = T ∧ e = e
theorem near_0 : near FP.dconst0 0 0 := sorry
theorem near_add {x y : UInt64} {T e T' e' : Int} (hx : near x T e) (hy : near y T' e') (hT : T + T' ≤ 600) (he : e + e' ≤ 1000) : near (FP.dadd x y) (T + T') (e + e' + 1) := sorry
theorem near_q {a k : Nat} (ha : a < 9) (h1 : 1 ≤ k) (hk : k < 4) : near (FP.ddiv (FP.i2d (nI a)) (FP.i2d (nI k))) ((6 * a / k : Nat) : Int) 1 := sorry
theorem near_ckn {β : Type} {x : UInt64} {T e : Int} {k : Option β} (h : near x T e) : ckn x k = k := sorry
theorem near_end {x : UInt64} {b : Nat} {e : Int} (h : near x (6 * b) e) (hb : b < 31) (he : e ≤ 900) (S : St) (n : Nat) : (ckn (FP.dsub (FP.i2d (nI b)) ((4562254508917369340 : UInt64))) <|
    if (Op.cmpValue (FP.dcmp x (FP.dsub (FP.i2d (nI b)) ((4562254508917369340 : UInt64)))) CmpOp.l) ≤ 0 then
    (some ((0 : Int32), S, n))
    else
    (ckn (FP.dadd (FP.i2d (nI b)) ((4562254508917369340 : UInt64))) <|
    if 0 ≤ (Op.cmpValue (FP.dcmp x (FP.dadd (FP.i2d (nI b)) ((4562254508917369340 : UInt64)))) CmpOp.g) then
    (some (0, S, n))
    else
    (some (1, S, n)))) = some (1, S, n) := sorry
