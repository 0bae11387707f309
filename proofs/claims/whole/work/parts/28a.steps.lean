theorem step_ok {F : Nat} {xs : Nat → Int32} {L : Nat} {S : St} {n : Nat} {i : Int32} (hF : 100000 ≤ F) (h : Rel S n) (hi : ∀ k : Nat, k < 6 → vp_in (i + nI k) L) (v : Int32) : Ok (f_step F xs L S n 0 197 210 211 i v) ∨ (0 ≤ v.toInt ∧ v.toInt ≤ 58 ∧ ¬ v = 0 ∧ ¬ v = 1 ∧ ¬ v = 2 ∧ ¬ v = 3 ∧ ¬ v = 4 ∧ ¬ v = 5 ∧ ¬ v = 6 ∧ ¬ v = 7 ∧ ¬ v = 8 ∧ ¬ v = 9 ∧ ¬ v = 10 ∧ ¬ v = 11 ∧ ¬ v = 12 ∧ ¬ v = 13 ∧ ¬ v = 14 ∧ ¬ v = 15 ∧ ¬ v = 16 ∧ ¬ v = 17 ∧ ¬ v = 18 ∧ ¬ v = 19 ∧ ¬ v = 20 ∧ ¬ v = 21 ∧ ¬ v = 22 ∧ ¬ v = 23 ∧ ¬ v = 24 ∧ ¬ v = 25 ∧ ¬ v = 26 ∧ ¬ v = 27 ∧ ¬ v = 28 ∧ ¬ v = 29 ∧ ¬ v = 30 ∧ ¬ v = 31 ∧ ¬ v = 32 ∧ ¬ v = 33 ∧ ¬ v = 34 ∧ ¬ v = 35 ∧ ¬ v = 36 ∧ ¬ v = 37 ∧ ¬ v = 38 ∧ ¬ v = 39 ∧ ¬ v = 40 ∧ ¬ v = 41 ∧ ¬ v = 42 ∧ ¬ v = 43 ∧ ¬ v = 44 ∧ ¬ v = 45 ∧ ¬ v = 46 ∧ ¬ v = 47 ∧ ¬ v = 48 ∧ ¬ v = 49 ∧ ¬ v = 50 ∧ ¬ v = 51 ∧ ¬ v = 52 ∧ ¬ v = 53 ∧ ¬ v = 54 ∧ ¬ v = 55 ∧ ¬ v = 56 ∧ ¬ v = 57 ∧ ¬ v = 58) := by
  unfold f_step
  by_cases hd : v.toInt < 0 ∨ 58 < v.toInt
  · rw [if_pos hd]
    exact Or.inl ⟨S, n, rfl, h⟩
  rw [if_neg hd]
  by_cases c0 : v = 0
  · rw [if_pos c0]
    exact Or.inl (ok_0 hF h hi)
  rw [if_neg c0]
  by_cases c1 : v = 1
  · rw [if_pos c1]
    exact Or.inl (ok_1 hF h hi)
  rw [if_neg c1]
  by_cases c2 : v = 2
  · rw [if_pos c2]
    exact Or.inl (ok_2 hF h hi)
  rw [if_neg c2]
  by_cases c3 : v = 3
  · rw [if_pos c3]
    exact Or.inl (ok_3 hF h hi)
  rw [if_neg c3]
  by_cases c4 : v = 4
  · rw [if_pos c4]
    exact Or.inl (ok_4 hF h hi)
  rw [if_neg c4]
  by_cases c5 : v = 5
  · rw [if_pos c5]
    exact Or.inl (ok_5 hF h hi)
  rw [if_neg c5]
  by_cases c6 : v = 6
  · rw [if_pos c6]
    exact Or.inl (ok_6 hF h hi)
  rw [if_neg c6]
  by_cases c7 : v = 7
  · rw [if_pos c7]
    exact Or.inl (ok_7 hF h hi)
  rw [if_neg c7]
  by_cases c8 : v = 8
  · rw [if_pos c8]
    exact Or.inl (ok_8 hF h hi)
  rw [if_neg c8]
  by_cases c9 : v = 9
  · rw [if_pos c9]
    exact Or.inl (ok_9 hF h hi)
  rw [if_neg c9]
  by_cases c10 : v = 10
  · rw [if_pos c10]
    exact Or.inl (ok_10 hF h hi)
  rw [if_neg c10]
  by_cases c11 : v = 11
  · rw [if_pos c11]
    exact Or.inl (ok_11 hF h hi)
  rw [if_neg c11]
  by_cases c12 : v = 12
  · rw [if_pos c12]
    exact Or.inl (ok_12 hF h hi)
  rw [if_neg c12]
  by_cases c13 : v = 13
  · rw [if_pos c13]
    exact Or.inl (ok_13 hF h hi)
  rw [if_neg c13]
  by_cases c14 : v = 14
  · rw [if_pos c14]
    exact Or.inl (ok_14 hF h hi)
  rw [if_neg c14]
  by_cases c15 : v = 15
  · rw [if_pos c15]
    exact Or.inl (ok_15 hF h hi)
  rw [if_neg c15]
  by_cases c16 : v = 16
  · rw [if_pos c16]
    exact Or.inl (ok_16 hF h hi)
  rw [if_neg c16]
  by_cases c17 : v = 17
  · rw [if_pos c17]
    exact Or.inl (ok_17 hF h hi)
  rw [if_neg c17]
  by_cases c18 : v = 18
  · rw [if_pos c18]
    exact Or.inl (ok_18 hF h hi)
  rw [if_neg c18]
  by_cases c19 : v = 19
  · rw [if_pos c19]
    exact Or.inl (ok_19 hF h hi)
  rw [if_neg c19]
  by_cases c20 : v = 20
  · rw [if_pos c20]
    exact Or.inl (ok_20 hF h hi)
  rw [if_neg c20]
  by_cases c21 : v = 21
  · rw [if_pos c21]
    exact Or.inl (ok_21 hF h hi)
  rw [if_neg c21]
  by_cases c22 : v = 22
  · rw [if_pos c22]
    exact Or.inl (ok_22 hF h hi)
  rw [if_neg c22]
  by_cases c23 : v = 23
  · rw [if_pos c23]
    exact Or.inl (ok_23 hF h hi)
  rw [if_neg c23]
  by_cases c24 : v = 24
  · rw [if_pos c24]
    exact Or.inl (ok_24 hF h hi)
  rw [if_neg c24]
  by_cases c25 : v = 25
  · rw [if_pos c25]
    exact Or.inl (ok_25 hF h hi)
  rw [if_neg c25]
  by_cases c26 : v = 26
  · rw [if_pos c26]
    exact Or.inl (ok_26 hF h hi)
  rw [if_neg c26]
  by_cases c27 : v = 27
  · rw [if_pos c27]
    exact Or.inl (ok_27 hF h hi)
  rw [if_neg c27]
  by_cases c28 : v = 28
  · rw [if_pos c28]
    exact Or.inl (ok_28 hF h hi)
  rw [if_neg c28]
  by_cases c29 : v = 29
  · rw [if_pos c29]
    exact Or.inl (ok_29 hF h hi)
  rw [if_neg c29]
  by_cases c30 : v = 30
  · rw [if_pos c30]
    exact Or.inl (ok_30 hF h hi)
  rw [if_neg c30]
  by_cases c31 : v = 31
  · rw [if_pos c31]
    exact Or.inl (ok_31 hF h hi)
  rw [if_neg c31]
  by_cases c32 : v = 32
  · rw [if_pos c32]
    exact Or.inl (ok_32 hF h hi)
  rw [if_neg c32]
  by_cases c33 : v = 33
  · rw [if_pos c33]
    exact Or.inl (ok_33 hF h hi)
  rw [if_neg c33]
  by_cases c34 : v = 34
  · rw [if_pos c34]
    exact Or.inl (ok_34 hF h hi)
  rw [if_neg c34]
  by_cases c35 : v = 35
  · rw [if_pos c35]
    exact Or.inl (ok_35 hF h hi)
  rw [if_neg c35]
  by_cases c36 : v = 36
  · rw [if_pos c36]
    exact Or.inl (ok_36 hF h hi)
  rw [if_neg c36]
  by_cases c37 : v = 37
  · rw [if_pos c37]
    exact Or.inl (ok_37 hF h hi)
  rw [if_neg c37]
  by_cases c38 : v = 38
  · rw [if_pos c38]
    exact Or.inl (ok_38 hF h hi)
  rw [if_neg c38]
  by_cases c39 : v = 39
  · rw [if_pos c39]
    exact Or.inl (ok_39 hF h hi)
  rw [if_neg c39]
  by_cases c40 : v = 40
  · rw [if_pos c40]
    exact Or.inl (ok_40 hF h hi)
  rw [if_neg c40]
  by_cases c41 : v = 41
  · rw [if_pos c41]
    exact Or.inl (ok_41 hF h hi)
  rw [if_neg c41]
  by_cases c42 : v = 42
  · rw [if_pos c42]
    exact Or.inl (ok_42 hF h hi)
  rw [if_neg c42]
  by_cases c43 : v = 43
  · rw [if_pos c43]
    exact Or.inl (ok_43 hF h hi)
  rw [if_neg c43]
  by_cases c44 : v = 44
  · rw [if_pos c44]
    exact Or.inl (ok_44 hF h hi)
  rw [if_neg c44]
  by_cases c45 : v = 45
  · rw [if_pos c45]
    exact Or.inl (ok_45 hF h hi)
  rw [if_neg c45]
  by_cases c46 : v = 46
  · rw [if_pos c46]
    exact Or.inl (ok_46 hF h hi)
  rw [if_neg c46]
  by_cases c47 : v = 47
  · rw [if_pos c47]
    exact Or.inl (ok_47 hF h hi)
  rw [if_neg c47]
  by_cases c48 : v = 48
  · rw [if_pos c48]
    exact Or.inl (ok_48 hF h hi)
  rw [if_neg c48]
  by_cases c49 : v = 49
  · rw [if_pos c49]
    exact Or.inl (ok_49 hF h hi)
  rw [if_neg c49]
  by_cases c50 : v = 50
  · rw [if_pos c50]
    exact Or.inl (ok_50 hF h hi)
  rw [if_neg c50]
  by_cases c51 : v = 51
  · rw [if_pos c51]
    exact Or.inl (ok_51 hF h hi)
  rw [if_neg c51]
  by_cases c52 : v = 52
  · rw [if_pos c52]
    exact Or.inl (ok_52 hF h hi)
  rw [if_neg c52]
  by_cases c53 : v = 53
  · rw [if_pos c53]
    exact Or.inl (ok_53 hF h hi)
  rw [if_neg c53]
  by_cases c54 : v = 54
  · rw [if_pos c54]
    exact Or.inl (ok_54 hF h hi)
  rw [if_neg c54]
  by_cases c55 : v = 55
  · rw [if_pos c55]
    exact Or.inl (ok_55 hF h hi)
  rw [if_neg c55]
  by_cases c56 : v = 56
  · rw [if_pos c56]
    exact Or.inl (ok_56 hF h hi)
  rw [if_neg c56]
  by_cases c57 : v = 57
  · rw [if_pos c57]
    exact Or.inl (ok_57 hF h hi)
  rw [if_neg c57]
  by_cases c58 : v = 58
  · rw [if_pos c58]
    exact Or.inl (ok_58 hF h hi)
  rw [if_neg c58]
  exact Or.inr ⟨by omega, by omega, c0, c1, c2, c3, c4, c5, c6, c7, c8, c9, c10, c11, c12, c13, c14, c15, c16, c17, c18, c19, c20, c21, c22, c23, c24, c25, c26, c27, c28, c29, c30, c31, c32, c33, c34, c35, c36, c37, c38, c39, c40, c41, c42, c43, c44, c45, c46, c47, c48, c49, c50, c51, c52, c53, c54, c55, c56, c57, c58⟩
theorem step_no {v : Int32} (h : 0 ≤ v.toInt ∧ v.toInt ≤ 58 ∧ ¬ v = 0 ∧ ¬ v = 1 ∧ ¬ v = 2 ∧ ¬ v = 3 ∧ ¬ v = 4 ∧ ¬ v = 5 ∧ ¬ v = 6 ∧ ¬ v = 7 ∧ ¬ v = 8 ∧ ¬ v = 9 ∧ ¬ v = 10 ∧ ¬ v = 11 ∧ ¬ v = 12 ∧ ¬ v = 13 ∧ ¬ v = 14 ∧ ¬ v = 15 ∧ ¬ v = 16 ∧ ¬ v = 17 ∧ ¬ v = 18 ∧ ¬ v = 19 ∧ ¬ v = 20 ∧ ¬ v = 21 ∧ ¬ v = 22 ∧ ¬ v = 23 ∧ ¬ v = 24 ∧ ¬ v = 25 ∧ ¬ v = 26 ∧ ¬ v = 27 ∧ ¬ v = 28 ∧ ¬ v = 29 ∧ ¬ v = 30 ∧ ¬ v = 31 ∧ ¬ v = 32 ∧ ¬ v = 33 ∧ ¬ v = 34 ∧ ¬ v = 35 ∧ ¬ v = 36 ∧ ¬ v = 37 ∧ ¬ v = 38 ∧ ¬ v = 39 ∧ ¬ v = 40 ∧ ¬ v = 41 ∧ ¬ v = 42 ∧ ¬ v = 43 ∧ ¬ v = 44 ∧ ¬ v = 45 ∧ ¬ v = 46 ∧ ¬ v = 47 ∧ ¬ v = 48 ∧ ¬ v = 49 ∧ ¬ v = 50 ∧ ¬ v = 51 ∧ ¬ v = 52 ∧ ¬ v = 53 ∧ ¬ v = 54 ∧ ¬ v = 55 ∧ ¬ v = 56 ∧ ¬ v = 57 ∧ ¬ v = 58) : False := by
  obtain ⟨a, b, c0, c1, c2, c3, c4, c5, c6, c7, c8, c9, c10, c11, c12, c13, c14, c15, c16, c17, c18, c19, c20, c21, c22, c23, c24, c25, c26, c27, c28, c29, c30, c31, c32, c33, c34, c35, c36, c37, c38, c39, c40, c41, c42, c43, c44, c45, c46, c47, c48, c49, c50, c51, c52, c53, c54, c55, c56, c57, c58⟩ := h
  have d0 := lv_neT (a := 0) c0 (by decide)
  have d1 := lv_neT (a := 1) c1 (by decide)
  have d2 := lv_neT (a := 2) c2 (by decide)
  have d3 := lv_neT (a := 3) c3 (by decide)
  have d4 := lv_neT (a := 4) c4 (by decide)
  have d5 := lv_neT (a := 5) c5 (by decide)
  have d6 := lv_neT (a := 6) c6 (by decide)
  have d7 := lv_neT (a := 7) c7 (by decide)
  have d8 := lv_neT (a := 8) c8 (by decide)
  have d9 := lv_neT (a := 9) c9 (by decide)
  have d10 := lv_neT (a := 10) c10 (by decide)
  have d11 := lv_neT (a := 11) c11 (by decide)
  have d12 := lv_neT (a := 12) c12 (by decide)
  have d13 := lv_neT (a := 13) c13 (by decide)
  have d14 := lv_neT (a := 14) c14 (by decide)
  have d15 := lv_neT (a := 15) c15 (by decide)
  have d16 := lv_neT (a := 16) c16 (by decide)
  have d17 := lv_neT (a := 17) c17 (by decide)
  have d18 := lv_neT (a := 18) c18 (by decide)
  have d19 := lv_neT (a := 19) c19 (by decide)
  have d20 := lv_neT (a := 20) c20 (by decide)
  have d21 := lv_neT (a := 21) c21 (by decide)
  have d22 := lv_neT (a := 22) c22 (by decide)
  have d23 := lv_neT (a := 23) c23 (by decide)
  have d24 := lv_neT (a := 24) c24 (by decide)
  have d25 := lv_neT (a := 25) c25 (by decide)
  have d26 := lv_neT (a := 26) c26 (by decide)
  have d27 := lv_neT (a := 27) c27 (by decide)
  have d28 := lv_neT (a := 28) c28 (by decide)
  have d29 := lv_neT (a := 29) c29 (by decide)
  have d30 := lv_neT (a := 30) c30 (by decide)
  have d31 := lv_neT (a := 31) c31 (by decide)
  have d32 := lv_neT (a := 32) c32 (by decide)
  have d33 := lv_neT (a := 33) c33 (by decide)
  have d34 := lv_neT (a := 34) c34 (by decide)
  have d35 := lv_neT (a := 35) c35 (by decide)
  have d36 := lv_neT (a := 36) c36 (by decide)
  have d37 := lv_neT (a := 37) c37 (by decide)
  have d38 := lv_neT (a := 38) c38 (by decide)
  have d39 := lv_neT (a := 39) c39 (by decide)
  have d40 := lv_neT (a := 40) c40 (by decide)
  have d41 := lv_neT (a := 41) c41 (by decide)
  have d42 := lv_neT (a := 42) c42 (by decide)
  have d43 := lv_neT (a := 43) c43 (by decide)
  have d44 := lv_neT (a := 44) c44 (by decide)
  have d45 := lv_neT (a := 45) c45 (by decide)
  have d46 := lv_neT (a := 46) c46 (by decide)
  have d47 := lv_neT (a := 47) c47 (by decide)
  have d48 := lv_neT (a := 48) c48 (by decide)
  have d49 := lv_neT (a := 49) c49 (by decide)
  have d50 := lv_neT (a := 50) c50 (by decide)
  have d51 := lv_neT (a := 51) c51 (by decide)
  have d52 := lv_neT (a := 52) c52 (by decide)
  have d53 := lv_neT (a := 53) c53 (by decide)
  have d54 := lv_neT (a := 54) c54 (by decide)
  have d55 := lv_neT (a := 55) c55 (by decide)
  have d56 := lv_neT (a := 56) c56 (by decide)
  have d57 := lv_neT (a := 57) c57 (by decide)
  have d58 := lv_neT (a := 58) c58 (by decide)
  omega
theorem lt6 {L j : Nat} (hL : L ≤ 3072) (hj : j ≤ 4000) : Int32.ofNat L - 6 < nI j ↔ L < j + 6 := by
  have h1 : (Int32.ofNat L).toInt = (L : Int) := nI_toInt (by omega)
  have h2 : (nI j).toInt = (j : Int) := nI_toInt (by omega)
  have h3 : (Int32.ofNat L - 6).toInt = (L : Int) - 6 := by
    rw [Int32.toInt_sub, h1]
    show ((L : Int) - 6).bmod (2 ^ 32) = _
    rw [Int.bmod_def]
    split <;> omega
  rw [Int32.lt_iff_toInt_lt, h3, h2]
  omega
theorem loop_ok {F : Nat} {xs : Nat → Int32} {L : Nat} (hF : 100000 ≤ F) (hL : L ≤ 3072) : ∀ (fu q : Nat) (S : St) (n : Nat), Rel S n → 6 * q ≤ 3072 → 513 - q ≤ fu → f_loop F xs L 0 197 210 211 fu (nI (6 * q)) S n = some () := by
  intro fu
  induction fu with
  | zero => intro q S n _ h1 h2; omega
  | succ fu ih =>
    intro q S n h h1 h2
    unfold f_loop
    by_cases hc : L < 6 * q + 6
    · rw [if_pos ((lt6 hL (by omega)).mpr hc)]
    · rw [if_neg (fun z => hc ((lt6 hL (by omega)).mp z))]
      have hi : ∀ k : Nat, k < 6 → vp_in (nI (6 * q) + nI k) L := fun k hk => by rw [nI_add]; exact vp_in_nI (by omega) (by omega)
      have h0 := hi 0 (by omega)
      rw [nI_add, Nat.add_zero] at h0
      rw [cki_t h0]
      obtain ⟨S', n', hs, hr⟩ : Ok (f_step F xs L S n 0 197 210 211 (nI (6 * q)) (xs (Int32.toNatClampNeg (nI (6 * q))) &&& 63)) := (step_ok hF h hi _).elim id (fun z => (step_no z).elim)
      rw [hs, ob_some]
      have e : nI (6 * q) + 6 = nI (6 * (q + 1)) := nI_add (6 * q) 6
      rw [e]
      exact ih (q + 1) S' n' hr (by omega) (by omega)
theorem whole_pure {F : Nat} {xs : Nat → Int32} {L : Nat} (hF : 100000 ≤ F) (hL : L ≤ 3072) : f_whole F xs L = some () := by
  unfold f_whole
  rw [init_eq, ob_some]
  exact loop_ok hF hL 513 0 SI 212 init_rel (by omega) (by omega)
