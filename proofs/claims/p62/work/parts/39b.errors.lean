/-! errors() -/
section Er
variable {F : Nat} {S : St} {n : Nat}
/-- the loop: the builder b lies above m, the spool below -/
theorem er_lo (hF : 100000 ≤ F) {S0 : St} {m b : Nat} (q : Qs S0 m) : ∀ d k fu S n l, k + d = 9 → d < fu → Bd S0 S b m n l → l ++ erL k d = cs 21 ++ erL 0 9 → 197 ≤ n → ∃ T n', f_L_errors_L470 F fu S n 0 b (nI k) = some (1, T, n') := by
  have hm := q.1.1
  intro d
  induction d with
  | zero =>
    intro k fu S n l hk hfu h hl hn
    obtain ⟨fu, rfl⟩ : ∃ q, fu = q + 1 := ⟨fu - 1, by omega⟩
    have hl' : l = cs 21 ++ erL 0 9 := by rw [← hl]; exact (List.append_nil l).symm
    obtain ⟨⟨v, v1, v2, v3⟩, ⟨b1, b2⟩, fr⟩ := h
    obtain ⟨T1, n1, e1, t1, t2, t3⟩ := e_toS (F := F) v1 b2 v3 hn
    have q1 : Qs T1 n1 := q.grow (by omega) (fun i hi => (fr i hi).tr (t3 i (by omega)))
    obtain ⟨w1, w2, w3⟩ := er_i (l := cs 21 ++ erL 0 9) (c := 4) (t := 150) (by unfold erT; simp)
    rw [hl'] at t1
    obtain ⟨T2, n2, e2, m2, q2, -⟩ := er_w (F := F) (ci := 4) (ti := 150) (c := 4) (t := 150) rfl rfl hF q1 t1 w2 (by omega) w1
    refine ⟨T2, n2, ?_⟩
    unfold f_L_errors_L470
    rw [if_pos (show (9 : Int32) ≤ nI k from nI_le (a := 9) (by omega) (by omega)), e1, ob_some]
    simp only []
    rw [lt_eq, lt_eq, lt_eq, e2, if_neg (show ¬ (1 : Int32) = 0 by decide), (a_count q2.1).1, ob_some]
    simp only [lt_eq, sm_r]
    rw [if_neg (fun y => y (show NI 3 = 0 from rfl)), a_undo q2.1, ob_some]
    rfl
  | succ d ih =>
    intro k fu S n l hk hfu h hl hn
    obtain ⟨fu, rfl⟩ : ∃ q, fu = q + 1 := ⟨fu - 1, by omega⟩
    obtain ⟨w1, w2, w3⟩ := er_i (l := cs 21 ++ erL 0 9) (c := 4) (t := 150) (by unfold erT; simp)
    have hl2 : (l ++ erL k (d + 1)).length ≤ 300 := by rw [hl]; exact w3
    have hl3 : (l ++ cs 39 ++ ltr k ++ cs 40).length ≤ 300 := by
      have : l ++ erL k (d + 1) = (l ++ cs 39 ++ ltr k ++ cs 40) ++ erL (k + 1) d := by show l ++ ((cs 39 ++ ltr k ++ cs 40) ++ erL (k + 1) d) = _; simp only [List.append_assoc]
      rw [this, List.length_append] at hl2
      omega
    have hl4 := hl3
    simp only [List.length_append] at hl4
    obtain ⟨T1, n1, e1, m1, h1⟩ := b_K (F := F) (x := 39) (by omega) h (by simp only [List.length_append]; omega)
    obtain ⟨T2, n2, e2, m2, h2⟩ := b_C (F := F) (c := k) h1 (by omega) (by unfold ltr at hl4; simp only [List.length_append, List.length_cons, List.length_nil] at hl4 ⊢; omega)
    obtain ⟨T3, n3, e3, m3, h3⟩ := b_K (F := F) (x := 40) (by omega) h2 (by simp only [List.length_append]; omega)
    obtain ⟨T, n', e⟩ := ih (k + 1) fu T3 n3 _ (by omega) (by omega) h3 (by rw [← hl]; show _ = l ++ ((cs 39 ++ ltr k ++ cs 40) ++ erL (k + 1) d); simp only [List.append_assoc]) (by omega)
    refine ⟨T, n', ?_⟩
    unfold f_L_errors_L470
    rw [if_neg (show ¬ (9 : Int32) ≤ nI k from nI_ge (b := 9) (by omega) (by omega)), e1, ob_some]
    simp only [lt_eq, ob_some]
    rw [e2, ob_some]
    simp only [ob_some]
    rw [e3, ob_some]
    simp only [ob_some]
    rw [show nI k + 1 = nI (k + 1) from nI_add k 1]
    exact e
end Er
set_option maxRecDepth 100000 in
set_option maxHeartbeats 4000000 in
theorem er_all {F : Nat} (hF : 100000 ≤ F) : ∃ T n', f_L_errors F SE 0 = some (1, T, n') := by
  have no : ∀ {c : Nat}, ∀ (h : (1 : Int32) = 0), False := fun h => absurd h (by decide)
  have q0 : Qs SI 197 := ⟨init_rc _ _ _, init_vals.2.2.1⟩
  have K : ∀ {S : St} {m x : Nat}, x < 41 → Tx S m x (cs x) := fun h => Tx.cst h
  have one : ¬ (1 : Int32) = 0 := by decide
  unfold f_L_errors
  rw [lt_eq (nob SE 0), Nat.zero_add, lt_eq 1, init_eq, ob_some, lt_eq, lt_eq]
  dsimp only []
  obtain ⟨S1, n1, r1, e1, m1, t1, f1⟩ := er_cat (F := F) (x := 21) (y := 22) (by omega) (Nat.le_refl _) (K (S := SI) (m := 197) (by omega)) (K (by omega)) (cs_asc (by omega)) (cs_asc (by omega)) (by decide)
  rw [e1]
  have q1 := q0.grow m1 f1
  obtain ⟨S2, n2, r2, e2, m2, t2, f2⟩ := er_cat (F := F) (x := r1) (y := 23) (by omega) q1.1.1 t1 (K (by omega)) (show ascL (cs 21 ++ cs 22) from fun c hc => (List.mem_append.mp hc).elim (cs_asc (by omega) c) (cs_asc (by omega) c)) (cs_asc (by omega)) (by decide)
  rw [e2]
  have q2 := q1.grow m2 f2
  have t1 := (t1.fr (T := S2) (fun i _ hi => f2 i hi)).up m2
  -- the texts
  obtain ⟨w1, w2, w3⟩ := er_i (l := cs 24) (c := 1) (t := 0) (by unfold erT; simp)
  obtain ⟨S3, n3, e3, l3, q3, f3⟩ := er_w (F := F) (S := S2) (n := n2) (x := 24) (ci := 1) (ti := 0) (c := 1) (t := 0) rfl rfl hF q2 (K (by omega)) w2 (by omega) w1
  rw [e3, if_neg one]
  have t1 := (t1.fr (T := S3) f3).up l3
  have t2 := (t2.fr (T := S3) f3).up l3
  obtain ⟨w1, w2, w3⟩ := er_i (l := cs 25) (c := 2) (t := 12) (by unfold erT; simp)
  obtain ⟨S4, n4, e4, l4, q4, f4⟩ := er_w (F := F) (S := S3) (n := n3) (x := 25) (ci := 2) (ti := 12) (c := 2) (t := 12) rfl rfl hF q3 (K (by omega)) w2 (by omega) w1
  rw [e4, if_neg one]
  have t1 := (t1.fr (T := S4) f4).up l4
  have t2 := (t2.fr (T := S4) f4).up l4
  obtain ⟨w1, w2, w3⟩ := er_i (l := cs 21 ++ cs 26) (c := 4) (t := 22) (by unfold erT; simp)
  obtain ⟨A5, a5, b5, g5, m5, u5, v5⟩ := er_cat (F := F) (x := 21) (y := 26) (a := cs 21) (b := cs 26) (by omega) q4.1.1 (K (by omega)) (K (S := S4) (by omega)) (asc_app w2).1 (asc_app w2).2 w3
  have p5 := q4.grow m5 v5
  have t1 := (t1.fr (T := A5) (fun i _ hi => v5 i hi)).up m5
  have t2 := (t2.fr (T := A5) (fun i _ hi => v5 i hi)).up m5
  obtain ⟨S5, n5, e5, l5, q5, f5⟩ := er_w (F := F) (ci := 4) (ti := 22) (c := 4) (t := 22) rfl rfl hF p5 u5 w2 (by omega) w1
  rw [g5, e5, if_neg one]
  have t1 := (t1.fr (T := S5) f5).up l5
  have t2 := (t2.fr (T := S5) f5).up l5
  obtain ⟨w1, w2, w3⟩ := er_i (l := cs 21 ++ cs 27) (c := 1) (t := 28) (by unfold erT; simp)
  obtain ⟨A6, a6, b6, g6, m6, u6, v6⟩ := er_cat (F := F) (x := 21) (y := 27) (a := cs 21) (b := cs 27) (by omega) q5.1.1 (K (by omega)) (K (S := S5) (by omega)) (asc_app w2).1 (asc_app w2).2 w3
  have p6 := q5.grow m6 v6
  have t1 := (t1.fr (T := A6) (fun i _ hi => v6 i hi)).up m6
  have t2 := (t2.fr (T := A6) (fun i _ hi => v6 i hi)).up m6
  obtain ⟨S6, n6, e6, l6, q6, f6⟩ := er_w (F := F) (ci := 1) (ti := 28) (c := 1) (t := 28) rfl rfl hF p6 u6 w2 (by omega) w1
  rw [g6, e6, if_neg one]
  have t1 := (t1.fr (T := S6) f6).up l6
  have t2 := (t2.fr (T := S6) f6).up l6
  obtain ⟨w1, w2, w3⟩ := er_i (l := cs 21 ++ cs 28) (c := 2) (t := 35) (by unfold erT; simp)
  obtain ⟨A7, a7, b7, g7, m7, u7, v7⟩ := er_cat (F := F) (x := 21) (y := 28) (a := cs 21) (b := cs 28) (by omega) q6.1.1 (K (by omega)) (K (S := S6) (by omega)) (asc_app w2).1 (asc_app w2).2 w3
  have p7 := q6.grow m7 v7
  have t1 := (t1.fr (T := A7) (fun i _ hi => v7 i hi)).up m7
  have t2 := (t2.fr (T := A7) (fun i _ hi => v7 i hi)).up m7
  obtain ⟨S7, n7, e7, l7, q7, f7⟩ := er_w (F := F) (ci := 2) (ti := 35) (c := 2) (t := 35) rfl rfl hF p7 u7 w2 (by omega) w1
  rw [g7, e7, if_neg one]
  have t1 := (t1.fr (T := S7) f7).up l7
  have t2 := (t2.fr (T := S7) f7).up l7
  obtain ⟨w1, w2, w3⟩ := er_i (l := erC ++ cs 29) (c := 3) (t := 43) (by unfold erT; simp)
  obtain ⟨A8, a8, b8, g8, m8, u8, v8⟩ := er_cat (F := F) (x := r1) (y := 29) (a := erC) (b := cs 29) (by omega) q7.1.1 t1 (K (S := S7) (by omega)) (asc_app w2).1 (asc_app w2).2 w3
  have p8 := q7.grow m8 v8
  have t1 := (t1.fr (T := A8) (fun i _ hi => v8 i hi)).up m8
  have t2 := (t2.fr (T := A8) (fun i _ hi => v8 i hi)).up m8
  obtain ⟨S8, n8, e8, l8, q8, f8⟩ := er_w (F := F) (ci := 3) (ti := 43) (c := 3) (t := 43) rfl rfl hF p8 u8 w2 (by omega) w1
  rw [g8, e8, if_pos one]
  have t1 := (t1.fr (T := S8) f8).up l8
  have t2 := (t2.fr (T := S8) f8).up l8
  obtain ⟨w1, w2, w3⟩ := er_i (l := erC ++ cs 30) (c := 3) (t := 57) (by unfold erT; simp)
  obtain ⟨A9, a9, b9, g9, m9, u9, v9⟩ := er_cat (F := F) (x := r1) (y := 30) (a := erC) (b := cs 30) (by omega) q8.1.1 t1 (K (S := S8) (by omega)) (asc_app w2).1 (asc_app w2).2 w3
  have p9 := q8.grow m9 v9
  have t1 := (t1.fr (T := A9) (fun i _ hi => v9 i hi)).up m9
  have t2 := (t2.fr (T := A9) (fun i _ hi => v9 i hi)).up m9
  obtain ⟨S9, n9, e9, l9, q9, f9⟩ := er_w (F := F) (ci := 3) (ti := 57) (c := 3) (t := 57) rfl rfl hF p9 u9 w2 (by omega) w1
  rw [g9, e9, if_neg one]
  have t1 := (t1.fr (T := S9) f9).up l9
  have t2 := (t2.fr (T := S9) f9).up l9
  obtain ⟨w1, w2, w3⟩ := er_i (l := erC ++ cs 31) (c := 2) (t := 57) (by unfold erT; simp)
  obtain ⟨A10, a10, b10, g10, m10, u10, v10⟩ := er_cat (F := F) (x := r1) (y := 31) (a := erC) (b := cs 31) (by omega) q9.1.1 t1 (K (S := S9) (by omega)) (asc_app w2).1 (asc_app w2).2 w3
  have p10 := q9.grow m10 v10
  have t1 := (t1.fr (T := A10) (fun i _ hi => v10 i hi)).up m10
  have t2 := (t2.fr (T := A10) (fun i _ hi => v10 i hi)).up m10
  obtain ⟨S10, n10, e10, l10, q10, f10⟩ := er_w (F := F) (ci := 2) (ti := 57) (c := 2) (t := 57) rfl rfl hF p10 u10 w2 (by omega) w1
  rw [g10, e10, if_neg one]
  have t1 := (t1.fr (T := S10) f10).up l10
  have t2 := (t2.fr (T := S10) f10).up l10
  obtain ⟨w1, w2, w3⟩ := er_i (l := erC ++ cs 32) (c := 4) (t := 37) (by unfold erT; simp)
  obtain ⟨A11, a11, b11, g11, m11, u11, v11⟩ := er_cat (F := F) (x := r1) (y := 32) (a := erC) (b := cs 32) (by omega) q10.1.1 t1 (K (S := S10) (by omega)) (asc_app w2).1 (asc_app w2).2 w3
  have p11 := q10.grow m11 v11
  have t1 := (t1.fr (T := A11) (fun i _ hi => v11 i hi)).up m11
  have t2 := (t2.fr (T := A11) (fun i _ hi => v11 i hi)).up m11
  obtain ⟨S11, n11, e11, l11, q11, f11⟩ := er_w (F := F) (ci := 4) (ti := 37) (c := 4) (t := 37) rfl rfl hF p11 u11 w2 (by omega) w1
  rw [g11, e11, if_neg one]
  have t1 := (t1.fr (T := S11) f11).up l11
  have t2 := (t2.fr (T := S11) f11).up l11
  obtain ⟨w1, w2, w3⟩ := er_i (l := erC ++ cs 33) (c := 3) (t := 50) (by unfold erT; simp)
  obtain ⟨A12, a12, b12, g12, m12, u12, v12⟩ := er_cat (F := F) (x := r1) (y := 33) (a := erC) (b := cs 33) (by omega) q11.1.1 t1 (K (S := S11) (by omega)) (asc_app w2).1 (asc_app w2).2 w3
  have p12 := q11.grow m12 v12
  have t1 := (t1.fr (T := A12) (fun i _ hi => v12 i hi)).up m12
  have t2 := (t2.fr (T := A12) (fun i _ hi => v12 i hi)).up m12
  obtain ⟨S12, n12, e12, l12, q12, f12⟩ := er_w (F := F) (ci := 3) (ti := 50) (c := 3) (t := 50) rfl rfl hF p12 u12 w2 (by omega) w1
  rw [g12, e12, if_neg one]
  have t1 := (t1.fr (T := S12) f12).up l12
  have t2 := (t2.fr (T := S12) f12).up l12
  obtain ⟨w1, w2, w3⟩ := er_i (l := erU ++ cs 34) (c := 3) (t := 66) (by unfold erT; simp)
  obtain ⟨A13, a13, b13, g13, m13, u13, v13⟩ := er_cat (F := F) (x := r2) (y := 34) (a := erU) (b := cs 34) (by omega) q12.1.1 t2 (K (S := S12) (by omega)) (asc_app w2).1 (asc_app w2).2 w3
  have p13 := q12.grow m13 v13
  have t1 := (t1.fr (T := A13) (fun i _ hi => v13 i hi)).up m13
  have t2 := (t2.fr (T := A13) (fun i _ hi => v13 i hi)).up m13
  obtain ⟨S13, n13, e13, l13, q13, f13⟩ := er_w (F := F) (ci := 3) (ti := 66) (c := 3) (t := 66) rfl rfl hF p13 u13 w2 (by omega) w1
  rw [g13, e13, if_neg one]
  have t1 := (t1.fr (T := S13) f13).up l13
  have t2 := (t2.fr (T := S13) f13).up l13
  obtain ⟨w1, w2, w3⟩ := er_i (l := erU ++ cs 35) (c := 3) (t := 68) (by unfold erT; simp)
  obtain ⟨A14, a14, b14, g14, m14, u14, v14⟩ := er_cat (F := F) (x := r2) (y := 35) (a := erU) (b := cs 35) (by omega) q13.1.1 t2 (K (S := S13) (by omega)) (asc_app w2).1 (asc_app w2).2 w3
  have p14 := q13.grow m14 v14
  have t1 := (t1.fr (T := A14) (fun i _ hi => v14 i hi)).up m14
  have t2 := (t2.fr (T := A14) (fun i _ hi => v14 i hi)).up m14
  obtain ⟨S14, n14, e14, l14, q14, f14⟩ := er_w (F := F) (ci := 3) (ti := 68) (c := 3) (t := 68) rfl rfl hF p14 u14 w2 (by omega) w1
  rw [g14, e14, if_pos one]
  have t1 := (t1.fr (T := S14) f14).up l14
  have t2 := (t2.fr (T := S14) f14).up l14
  obtain ⟨w1, w2, w3⟩ := er_i (l := erU ++ cs 36) (c := 3) (t := 72) (by unfold erT; simp)
  obtain ⟨A15, a15, b15, g15, m15, u15, v15⟩ := er_cat (F := F) (x := r2) (y := 36) (a := erU) (b := cs 36) (by omega) q14.1.1 t2 (K (S := S14) (by omega)) (asc_app w2).1 (asc_app w2).2 w3
  have p15 := q14.grow m15 v15
  have t1 := (t1.fr (T := A15) (fun i _ hi => v15 i hi)).up m15
  have t2 := (t2.fr (T := A15) (fun i _ hi => v15 i hi)).up m15
  obtain ⟨S15, n15, e15, l15, q15, f15⟩ := er_w (F := F) (ci := 3) (ti := 72) (c := 3) (t := 72) rfl rfl hF p15 u15 w2 (by omega) w1
  rw [g15, e15, if_neg one]
  have t1 := (t1.fr (T := S15) f15).up l15
  have t2 := (t2.fr (T := S15) f15).up l15
  obtain ⟨w1, w2, w3⟩ := er_i (l := erU ++ cs 37) (c := 2) (t := 84) (by unfold erT; simp)
  obtain ⟨A16, a16, b16, g16, m16, u16, v16⟩ := er_cat (F := F) (x := r2) (y := 37) (a := erU) (b := cs 37) (by omega) q15.1.1 t2 (K (S := S15) (by omega)) (asc_app w2).1 (asc_app w2).2 w3
  have p16 := q15.grow m16 v16
  have t1 := (t1.fr (T := A16) (fun i _ hi => v16 i hi)).up m16
  have t2 := (t2.fr (T := A16) (fun i _ hi => v16 i hi)).up m16
  obtain ⟨S16, n16, e16, l16, q16, f16⟩ := er_w (F := F) (ci := 2) (ti := 84) (c := 2) (t := 84) rfl rfl hF p16 u16 w2 (by omega) w1
  rw [g16, e16, if_neg one]
  have t1 := (t1.fr (T := S16) f16).up l16
  have t2 := (t2.fr (T := S16) f16).up l16
  obtain ⟨w1, w2, w3⟩ := er_i (l := erU ++ cs 38) (c := 1) (t := 79) (by unfold erT; simp)
  obtain ⟨A17, a17, b17, g17, m17, u17, v17⟩ := er_cat (F := F) (x := r2) (y := 38) (a := erU) (b := cs 38) (by omega) q16.1.1 t2 (K (S := S16) (by omega)) (asc_app w2).1 (asc_app w2).2 w3
  have p17 := q16.grow m17 v17
  have t1 := (t1.fr (T := A17) (fun i _ hi => v17 i hi)).up m17
  have t2 := (t2.fr (T := A17) (fun i _ hi => v17 i hi)).up m17
  obtain ⟨S17, n17, e17, l17, q17, f17⟩ := er_w (F := F) (ci := 1) (ti := 79) (c := 1) (t := 79) rfl rfl hF p17 u17 w2 (by omega) w1
  rw [g17, e17, if_pos one]
  have t1 := (t1.fr (T := S17) f17).up l17
  have t2 := (t2.fr (T := S17) f17).up l17
  -- the last: nine classes
  have z3 : si (nob S17 n17) 1003 n17 = 0 := by rw [si_nob, if_pos rfl]
  have z1 : si (nob S17 n17) 1001 n17 = 0 := by rw [si_nob, if_pos rfl]
  have hn := q17.1.1
  obtain ⟨T1, k1, d1, ⟨⟨v, v1, v2, v3⟩, o2, o3, o4⟩⟩ := e_newS (F := F) (S := nob S17 n17) (b := n17) (m := n17) (n := n17 + 1) (x := 21) (t := cs 21) (by omega) (Nat.le_refl _) (Tx.cst (by omega)) (cs_asc (by omega)) (by decide) z3 z1
  have h1 : Bd S17 T1 n17 n17 k1 (cs 21) := ⟨⟨v, v1, v2, v3⟩, ⟨Nat.le_refl _, o2⟩, fun i hi => (SameO.nob (by omega)).tr (o4 i hi)⟩
  obtain ⟨T, n', e⟩ := er_lo (F := F) hF q17 9 0 12 T1 k1 (cs 21) (by omega) (by omega) h1 rfl (by omega)
  refine ⟨T, n', ?_⟩
  rw [lt_eq, lt_eq, d1, ob_some, lt_eq, lt_eq]
  exact e
