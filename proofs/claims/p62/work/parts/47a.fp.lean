/-! doubles: a sum of shares is near what it should be; in units of 2^-46 -/
def fD : Int := 2 ^ 1028
def zv (x : UInt64) : Int := FP.Core.zval FP.Core.b64 (FP.Core.val64 x)
/-- x is T sixths, but for e units -/
def near (x : UInt64) (T e : Int) : Prop := (∃ c q, FP.Core.val64 x = .fin false c q) ∧ 70368744177664 * (T * fD) - 6 * (e * fD) ≤ 6 * zv x ∧ 6 * zv x ≤ 70368744177664 * (T * fD) + 6 * (e * fD)
theorem fD_pos : 0 < fD := by decide +kernel
theorem zv_fin {x : UInt64} {c : Nat} {q : Int} (h : FP.Core.val64 x = .fin false c q) : zv x = (FP.Core.inUnits c q FP.Core.b64.qmin : Int) := by
  unfold zv
  rw [h]
  rfl
theorem near_0 : near FP.dconst0 0 0 := by
  have h : FP.Core.val64 FP.dconst0 = .fin false 0 (-1074) := by decide +kernel
  refine ⟨⟨0, -1074, h⟩, ?_⟩
  rw [zv_fin h]
  have e : (FP.Core.inUnits 0 (-1074) FP.Core.b64.qmin : Int) = 0 := by decide +kernel
  rw [e]
  omega
theorem near_nn {x : UInt64} {T e : Int} (h : near x T e) : FP.Core.val64 x ≠ .nan := by
  obtain ⟨⟨c, q, h⟩, -⟩ := h
  rw [h]
  exact FP.Core.Datum.noConfusion
theorem fp_up {A G : Nat} (h : (A : Int) < 9007199254740992 * (G : Int)) : A < 2 ^ 53 * G := by
  have e : (2 : Nat) ^ 53 = 9007199254740992 := by decide
  rw [e]
  omega
theorem fp_a1 {S Z V M G : Nat} (hn : ((S : Int) - (Z : Int) * ((1 : Nat) : Int)).natAbs ≤ ((S : Int) - (V : Int) * ((1 : Nat) : Int)).natAbs) (hd : V + M = S) (hm : M < G) : (S : Int) - (G : Int) ≤ (Z : Int) ∧ (Z : Int) ≤ (S : Int) + (G : Int) := by
  omega
theorem fp_a2 {X Y Z : Nat} {t1 t2 t3 t4 g : Int} (h1 : 70368744177664 * t1 - 6 * t3 ≤ 6 * (X : Int)) (h2 : 6 * (X : Int) ≤ 70368744177664 * t1 + 6 * t3) (h3 : 70368744177664 * t2 - 6 * t4 ≤ 6 * (Y : Int)) (h4 : 6 * (Y : Int) ≤ 70368744177664 * t2 + 6 * t4) (h : ((X + Y : Nat) : Int) - g ≤ (Z : Int) ∧ (Z : Int) ≤ ((X + Y : Nat) : Int) + g) :
    70368744177664 * (t1 + t2) - 6 * (t3 + t4 + g) ≤ 6 * (Z : Int) ∧ 6 * (Z : Int) ≤ 70368744177664 * (t1 + t2) + 6 * (t3 + t4 + g) := by
  omega
theorem near_add {x y : UInt64} {T e T' e' : Int} (hx : near x T e) (hy : near y T' e') (hT : T + T' ≤ 600) (he : e + e' ≤ 1000) : near (FP.dadd x y) (T + T') (e + e' + 1) := by
  obtain ⟨⟨c, q, hx1⟩, hx2, hx3⟩ := hx
  obtain ⟨⟨d, r, hy1⟩, hy2, hy3⟩ := hy
  have fx := FP.Core.val64_fits x
  have fy := FP.Core.val64_fits y
  rw [hx1] at fx
  rw [hy1] at fy
  have qx : FP.Core.b64.qmin ≤ q := fx.2.1
  have qy : FP.Core.b64.qmin ≤ r := fy.2.1
  rw [zv_fin hx1] at hx2 hx3
  rw [zv_fin hy1] at hy2 hy3
  have hme : FP.Core.b64.qmin ≤ min q r := by omega
  have ix := FP.Core.inUnits_move c (q := q) (r := min q r) hme (by omega)
  have iy := FP.Core.inUnits_move d (q := r) (r := min q r) hme (by omega)
  have hv : FP.Core.val64 (FP.dadd x y) = FP.Core.roundRatio FP.Core.b64 false (FP.Core.inUnits c q (min q r) + FP.Core.inUnits d r (min q r)) 1 (min q r) := by
    rw [FP.Core.val64_dadd, hx1, hy1]
    have e1 : FP.Core.sumUnits false c q false d r (min q r) = ((FP.Core.inUnits c q (min q r) + FP.Core.inUnits d r (min q r) : Nat) : Int) := by
      unfold FP.Core.sumUnits FP.Core.signed
      simp
    show FP.Core.roundRatio FP.Core.b64 _ _ 1 _ = _
    rw [e1]
    have e2 : FP.Core.sumSign false false ((FP.Core.inUnits c q (min q r) + FP.Core.inUnits d r (min q r) : Nat) : Int) = false := by
      unfold FP.Core.sumSign
      split
      · rfl
      · exact decide_eq_false (by omega)
    rw [e2, Int.natAbs_natCast]
  have hS : FP.Core.inUnits (FP.Core.inUnits c q (min q r) + FP.Core.inUnits d r (min q r)) (min q r) FP.Core.b64.qmin = FP.Core.inUnits c q FP.Core.b64.qmin + FP.Core.inUnits d r FP.Core.b64.qmin := by
    rw [ix, iy, ← Nat.add_mul]
    rfl
  generalize FP.Core.inUnits c q (min q r) + FP.Core.inUnits d r (min q r) = A at hv hS
  generalize FP.Core.inUnits c q FP.Core.b64.qmin = X at hx2 hx3 hS
  generalize FP.Core.inUnits d r FP.Core.b64.qmin = Y at hy2 hy3 hS
  have b1 : (T + T') * fD ≤ 600 * fD := Int.mul_le_mul_of_nonneg_right hT (Int.le_of_lt fD_pos)
  have b2 : (e + e') * fD ≤ 1000 * fD := Int.mul_le_mul_of_nonneg_right he (Int.le_of_lt fD_pos)
  have hfD : fD = ((2 ^ 1028 : Nat) : Int) := by decide +kernel
  have pD := fD_pos
  rw [Int.add_mul] at b1 b2
  have hSb : ((X + Y : Nat) : Int) < 9007199254740992 * fD := by
    push_cast
    omega
  have hSn : X + Y < 2 ^ 53 * 2 ^ 1028 := fp_up (by rw [hfD] at hSb; exact hSb)
  rcases FP.Core.roundRatio_cases FP.Core.b64 false A 1 (min q r) with ⟨c9, q9, h9⟩ | h9
  · have hn := FP.Core.roundRatio_nearest FP.Core.good_b64 (c' := (X + Y) / 2 ^ 1028) (q' := -46) (e0 := FP.Core.b64.qmin) (by decide) h9 (by
      show _ < 2 ^ 53
      rw [Nat.div_lt_iff_lt_mul (Nat.two_pow_pos _)]
      exact hSn) (by decide) (Int.le_refl _) hme
    unfold FP.Core.distance at hn
    rw [hS] at hn
    have e4 : FP.Core.inUnits ((X + Y) / 2 ^ 1028) (-46) FP.Core.b64.qmin = (X + Y) / 2 ^ 1028 * 2 ^ 1028 := rfl
    rw [e4] at hn
    rw [h9] at hv
    have hz := zv_fin hv
    generalize FP.Core.inUnits c9 q9 FP.Core.b64.qmin = Z at hn hz
    have hdm := Nat.div_add_mod (X + Y) (2 ^ 1028)
    have hml := Nat.mod_lt (X + Y) (Nat.two_pow_pos 1028)
    rw [Nat.mul_comm] at hdm
    have a1 := fp_a1 hn hdm hml
    refine ⟨⟨c9, q9, hv⟩, ?_⟩
    rw [hz, Int.add_mul, Int.add_mul, Int.add_mul, Int.one_mul]
    exact fp_a2 hx2 hx3 hy2 hy3 (by rw [hfD]; exact a1)
  · exfalso
    have := (FP.Core.roundRatio_inf FP.Core.good_b64 (e0 := FP.Core.b64.qmin - 1) (by decide) (by omega) (by omega)).mp h9
    have e5 : FP.Core.inUnits A (min q r) (FP.Core.b64.qmin - 1) = FP.Core.inUnits A (min q r) FP.Core.b64.qmin * 2 := by
      rw [FP.Core.inUnits_move A (q := min q r) (r := FP.Core.b64.qmin) (e := FP.Core.b64.qmin - 1) (by omega) hme]
      rfl
    rw [e5, hS] at this
    have big : 2 ^ 53 * 2 ^ 1028 * 2 ≤ (2 ^ (FP.Core.b64.p + 1) - 1) * 2 ^ (FP.Core.b64.qmax - 1 - (FP.Core.b64.qmin - 1)).toNat * 1 := by decide +kernel
    omega
/-- the part of a share -/
def nearB (a k : Nat) : Bool := match FP.Core.val64 (FP.ddiv (FP.i2d (nI a)) (FP.i2d (nI k))) with
  | .fin false c q => decide (70368744177664 * (((6 * a / k : Nat) : Int) * fD) - 6 * (1 * fD) ≤ 6 * (FP.Core.inUnits c q FP.Core.b64.qmin : Int) ∧ 6 * (FP.Core.inUnits c q FP.Core.b64.qmin : Int) ≤ 70368744177664 * (((6 * a / k : Nat) : Int) * fD) + 6 * (1 * fD))
  | _ => false
theorem nearB_all : ∀ a, a < 9 → ∀ k, k < 4 → (k = 0 ∨ nearB a k = true) := by decide +kernel
theorem near_q {a k : Nat} (ha : a < 9) (h1 : 1 ≤ k) (hk : k < 4) : near (FP.ddiv (FP.i2d (nI a)) (FP.i2d (nI k))) ((6 * a / k : Nat) : Int) 1 := by
  have h := (nearB_all a ha k hk).resolve_left (by omega)
  unfold nearB at h
  split at h
  · rename_i c q hv
    refine ⟨⟨c, q, hv⟩, ?_⟩
    rw [zv_fin hv]
    exact of_decide_eq_true h
  · cases h
/-- the law's bounds -/
def bndB (b : Nat) : Bool := decide (FP.Core.val64 (FP.dsub (FP.i2d (nI b)) 4562254508917369340) ≠ .nan ∧ FP.Core.val64 (FP.dadd (FP.i2d (nI b)) 4562254508917369340) ≠ .nan ∧ zv (FP.dsub (FP.i2d (nI b)) 4562254508917369340) < ((b : Int) * 70368744177664 - 1000) * fD ∧ ((b : Int) * 70368744177664 + 1000) * fD < zv (FP.dadd (FP.i2d (nI b)) 4562254508917369340))
theorem bndB_all : ∀ b, b < 31 → bndB b = true := by decide +kernel
theorem cmp_gt {a b : Int} (h : b < a) : compare a b = Ordering.gt := by
  unfold compare instOrdInt compareOfLessAndEq
  simp only
  rw [if_neg (by omega), if_neg (by omega)]
theorem cmp_lt {a b : Int} (h : a < b) : compare a b = Ordering.lt := by
  unfold compare instOrdInt compareOfLessAndEq
  simp only
  rw [if_pos h]
theorem near_bounds {x : UInt64} {b : Nat} {e : Int} (h : near x (6 * b) e) (hb : b < 31) (he : e ≤ 900) : FP.Core.val64 (FP.dsub (FP.i2d (nI b)) 4562254508917369340) ≠ .nan ∧ FP.Core.val64 (FP.dadd (FP.i2d (nI b)) 4562254508917369340) ≠ .nan ∧ FP.dcmp x (FP.dsub (FP.i2d (nI b)) 4562254508917369340) = some .gt ∧ FP.dcmp x (FP.dadd (FP.i2d (nI b)) 4562254508917369340) = some .lt := by
  have h0 := of_decide_eq_true (bndB_all b hb)
  obtain ⟨h1, h2, h3, h4⟩ := h0
  have hn := near_nn h
  obtain ⟨-, g1, g2⟩ := h
  have b2 : e * fD ≤ 900 * fD := Int.mul_le_mul_of_nonneg_right he (Int.le_of_lt fD_pos)
  have pD := fD_pos
  have e3 : 6 * (b : Int) * fD = 6 * (b * fD) := Int.mul_assoc _ _ _
  have e4 : (b : Int) * 70368744177664 * fD = 70368744177664 * (b * fD) := by rw [Int.mul_comm (b : Int), Int.mul_assoc]
  rw [e3] at g1 g2
  rw [Int.sub_mul, e4] at h3
  rw [Int.add_mul, e4] at h4
  generalize (b : Int) * fD = t1 at *
  generalize e * fD = t2 at *
  refine ⟨h1, h2, ?_, ?_⟩
  · show FP.Core.order (FP.Core.val64 x) (FP.Core.val64 _) = _
    rw [FP.Core.order_zval FP.Core.good_b64 (FP.Core.val64_fits _) (FP.Core.val64_fits _) hn h1]
    exact congrArg some (cmp_gt (show zv _ < zv x by omega))
  · show FP.Core.order (FP.Core.val64 x) (FP.Core.val64 _) = _
    rw [FP.Core.order_zval FP.Core.good_b64 (FP.Core.val64_fits _) (FP.Core.val64_fits _) hn h2]
    exact congrArg some (cmp_lt (show zv x < zv _ by omega))
theorem ckn_t {β : Type} {v : UInt64} {k : Option β} (h : FP.Core.val64 v ≠ .nan) : ckn v k = k := by
  unfold ckn
  rw [if_pos]
  rw [UInt64.le_iff_toNat_le, UInt64.toNat_and]
  have h1 : (0x7fffffffffffffff : UInt64).toNat = 2 ^ 63 - 1 := by decide
  have h2 : (0x7ff0000000000000 : UInt64).toNat = 9218868437227405312 := by decide
  rw [h1, h2, Nat.and_two_pow_sub_one_eq_mod]
  exact (FP.Core.ne_nan v).mp h
theorem near_ckn {β : Type} {x : UInt64} {T e : Int} {k : Option β} (h : near x T e) : ckn x k = k := ckn_t (near_nn h)
theorem near_end {x : UInt64} {b : Nat} {e : Int} (h : near x (6 * b) e) (hb : b < 31) (he : e ≤ 900) (S : St) (n : Nat) : (ckn (FP.dsub (FP.i2d (nI b)) ((4562254508917369340 : UInt64))) <|
    if (Op.cmpValue (FP.dcmp x (FP.dsub (FP.i2d (nI b)) ((4562254508917369340 : UInt64)))) CmpOp.l) ≤ 0 then
    (some ((0 : Int32), S, n))
    else
    (ckn (FP.dadd (FP.i2d (nI b)) ((4562254508917369340 : UInt64))) <|
    if 0 ≤ (Op.cmpValue (FP.dcmp x (FP.dadd (FP.i2d (nI b)) ((4562254508917369340 : UInt64)))) CmpOp.g) then
    (some (0, S, n))
    else
    (some (1, S, n)))) = some (1, S, n) := by
  obtain ⟨h1, h2, h3, h4⟩ := near_bounds h hb he
  rw [ckn_t h1, h3, if_neg (show ¬ Op.cmpValue (some .gt) CmpOp.l ≤ (0 : Int32) by decide), ckn_t h2, h4, if_neg (show ¬ (0 : Int32) ≤ Op.cmpValue (some .lt) CmpOp.g by decide)]
