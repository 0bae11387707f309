set_option maxHeartbeats 4000000 in
set_option maxRecDepth 100000 in
theorem c_lawS {p : Program} {e : Env} {R : Room} {s : State} {m : MethodId} {below : List Frame} {meth : Method} {c : Code} {Q : State → Prop} {b L : Nat} {xs : Nat → Int32} {H : Heap} {locs : List Loc} {ls : Array Slot} {cells slots : Nat} (l : Launch) (hfl : l.stackTraces = false) (g : GP) (ad : Nat → Nat) (n : Nat) (K : Nat → Nat) (F : Nat) (S0 : St) (hC : Cx g p s m #[.ref b] c cL_law RL lw_tbl 9) (hX : va_X b L xs s s.heap) (hbl : b < s.heap.size) (hGs : GF g (fun q : Nat => s.heap.size ≤ q) s s.heap) (hW : Wb g ad n K S0 (fun q : Nat => s.heap.size ≤ q) H) (hS : va_S (fun q : Nat => s.heap.size ≤ q) s.heap H locs) (hl : lv_has ls 9 [(0, .ref b)]) (hRf : 13 ≤ R.frames) (hRl : 280 ≤ R.locals) (hRc : cells + 212 ≤ R.cells) (hRs : slots + 812798 ≤ R.slots) (S9 : St) (n9 o1 o2 o3 o4 : Nat) (hf : f_lawS F xs L S0 n = some (S9, n9, o1, o2, o3, o4))
    (kk : ∀ (ad9 K9 : Nat → Nat) (H1 : Heap) (locs1 : List Loc) (ls1 : Array Slot), Ag ad K n ad9 K9 n9 → o1 < n9 ∧ K9 o1 = 9 → o2 < n9 ∧ K9 o2 = 10 → o3 < n9 ∧ K9 o3 = 13 → o4 < n9 ∧ K9 o4 = 17 → Wb g ad9 n9 K9 S9 (fun q : Nat => s.heap.size ≤ q) H1 → va_S (fun q : Nat => s.heap.size ≤ q) s.heap H1 locs1 → lv_has ls1 9 [(5, .int 0), (4, .ref (ad9 o4)), (3, .ref (ad9 o3)), (2, .ref (ad9 o2)), (1, .ref (ad9 o1)), (0, .ref b)] → W p l e R s m #[.ref b] below meth c H1 locs1 (cells + 212) (slots + 812798) Q (F0 m 28 ls1 [])) :
    W p l e R s m #[.ref b] below meth c H locs cells slots Q (F0 m 0 ls []) := by
  have hx := hC.1
  have hb := hC.2.1
  have hml := hC.2.2.1
  have hown : s.vm.findClass RL = some m.cls := hC.2.2.2.1
  have hts := hC.2.2.2.2.1
  have hK := hC.2.2.2.2.2
  have hA : ∀ q : Nat, s.heap.size ≤ q → (fun q : Nat => s.heap.size ≤ q) q := fun _ h => h
  have hbA : ¬ (fun q : Nat => s.heap.size ≤ q) b := Nat.not_le.mpr hbl
  have hin10 : ∀ w ∈ wsX100, w ∈ lw_tbl := inX10
  have hin11 : ∀ w ∈ wsX110, w ∈ lw_tbl := inX11
  have w_0 := hts (.classLink RL 8 RX10) (by decide +kernel)
  have w_1 := hts (.instantiable RX10 11) (by decide +kernel)
  have w_2 := hts (.initialized RX10) (by decide +kernel)
  have w_3 := hts (.methodLink RL 160 yX10_init) (by decide +kernel)
  have w_4 := hts (.instanceMethod yX10_init) (by decide +kernel)
  have w_5 := hts (.classLink RL 161 RX11) (by decide +kernel)
  have w_6 := hts (.instantiable RX11 30) (by decide +kernel)
  have w_7 := hts (.initialized RX11) (by decide +kernel)
  have w_8 := hts (.methodLink RL 163 yX11_init) (by decide +kernel)
  have w_9 := hts (.instanceMethod yX11_init) (by decide +kernel)
  have w_10 := hts (.arrayClass .long) (by decide +kernel)
  have w_11 := hts (.arrayClass .double) (by decide +kernel)
  unfold f_lawS at hf
  refine x_new (ci := 9) (C := RX10) (T := TX10) (N := 11) hC hin10 tyX10_ok hW hS hA ⟨rfl, by decide, by decide⟩ (by decide +kernel) w_0 w_1 w_2 (by omega) (by omega) dL_law_0 (fun q1 ad2 K3 S4 H eS4 hag6 eqq1 ekq1 hW hS => ?_)
  replace hf := ltE hf S4 eS4
  obtain ⟨n5, en5⟩ : ∃ z, z = n + 1 := ⟨_, rfl⟩
  rw [← en5] at hag6 hW
  replace hf := ltE hf n5 en5
  have tq1 : n < n5 ∧ K3 n = 9 := ⟨by omega, ekq1⟩
  refine W.widen (k := cells + 1) (n := slots + 11) (by omega) (by omega) ?_
  refine lv_dup hx hb dL_law_3 rfl ?_
  replace hf := obE hf
  obtain ⟨z7, hz7, hf⟩ := hf
  obtain ⟨S8, n10⟩ := z7
  replace hf := ltE (ltE hf S8 rfl) n10 rfl
  refine x_acallI (As := []) (rest := [.ref (q1)]) (S1 := S8) (n1 := n10) (o := (fun _ => none)) (P := (fun _ => True)) hC hl.1 hW hS hGs hA (c_X10_init l g ad2 n5 K3 H.size F S4 n tq1 S8 n10 hz7) (cwI 0 hts gL_law_X10_init rfl rfl rfl w_2 w_3 w_4 rfl (by decide +kernel) ⟨Nat.le_trans (Nat.le_of_ble_eq_true rfl) hRf, Nat.le_trans (Nat.le_of_ble_eq_true rfl) hRl⟩) rfl (by rw [eqq1] <;> rfl) (Nat.le_of_ble_eq_true rfl) dL_law_4 ⟨by omega, by omega⟩ (fun ad11 K12 H locs hag13 hPz7 hW hS => ?_)
  refine W.widen (k := cells + 197) (n := slots + 77675) (by omega) (by omega) ?_
  refine W.eq (g2 := F0 m 7 ls [.ref (q1)]) rfl ?_
  refine lv_astore_n (lv' := [(1, .ref (q1)), (0, .ref b)]) hx hb dL_law_7 rfl hl (by decide) rfl (fun ls hl => ?_)
  refine x_new (ci := 10) (C := RX11) (T := TX11) (N := 30) hC hin11 tyX11_ok hW hS hA ⟨rfl, by decide, by decide⟩ (by decide +kernel) w_5 w_6 w_7 (by omega) (by omega) dL_law_8 (fun q14 ad15 K16 S17 H eS17 hag19 eqq14 ekq14 hW hS => ?_)
  replace hf := ltE hf S17 eS17
  obtain ⟨n18, en18⟩ : ∃ z, z = n10 + 1 := ⟨_, rfl⟩
  rw [← en18] at hag19 hW
  replace hf := ltE hf n18 en18
  have tq14 : n10 < n18 ∧ K16 n10 = 10 := ⟨by omega, ekq14⟩
  refine W.widen (k := cells + 198) (n := slots + 77705) (by omega) (by omega) ?_
  refine lv_dup hx hb dL_law_11 rfl ?_
  replace hf := obE hf
  obtain ⟨z20, hz20, hf⟩ := hf
  obtain ⟨S21, n23⟩ := z20
  replace hf := ltE (ltE hf S21 rfl) n23 rfl
  refine x_acallI (As := []) (rest := [.ref (q14)]) (S1 := S21) (n1 := n23) (o := (fun _ => none)) (P := (fun _ => True)) hC hl.1 hW hS hGs hA (c_X11_init l g ad15 n18 K16 H.size F S17 n10 tq14 S21 n23 hz20) (cwI 0 hts gL_law_X11_init rfl rfl rfl w_7 w_8 w_9 rfl (by decide +kernel) ⟨Nat.le_trans (Nat.le_of_ble_eq_true rfl) hRf, Nat.le_trans (Nat.le_of_ble_eq_true rfl) hRl⟩) rfl (by rw [eqq14] <;> rfl) (Nat.le_of_ble_eq_true rfl) dL_law_12 ⟨by omega, by omega⟩ (fun ad24 K25 H locs hag26 hPz20 hW hS => ?_)
  refine W.widen (k := cells + 210) (n := slots + 812796) (by omega) (by omega) ?_
  refine W.eq (g2 := F0 m 15 ls [.ref (q14)]) rfl ?_
  refine lv_astore_n (lv' := [(2, .ref (q14)), (1, .ref (q1)), (0, .ref b)]) hx hb dL_law_15 rfl hl (by decide) rfl (fun ls hl => ?_)
  refine lv_iconst (v := 1) hx hb dL_law_16 (by decide) ?_
  refine x_newaJ (len := 1) hC w_10 hW hS hA (by decide) (by decide) (Nat.le_of_ble_eq_true rfl) (by omega) (by omega) dL_law_17 (fun q27 ad28 K29 S30 H eS30 hag32 eqq27 ekq27 hW hS => ?_)
  replace hf := ltE hf S30 eS30
  obtain ⟨n31, en31⟩ : ∃ z, z = n23 + 1 := ⟨_, rfl⟩
  rw [← en31] at hag32 hW
  replace hf := ltE hf n31 en31
  have tq27 : n23 < n31 ∧ K29 n23 = 13 := ⟨by omega, ekq27⟩
  refine W.widen (k := cells + 211) (n := slots + 812797) (by omega) (by omega) ?_
  refine lv_astore_n (lv' := [(3, .ref (q27)), (2, .ref (q14)), (1, .ref (q1)), (0, .ref b)]) hx hb dL_law_19 rfl hl (by decide) rfl (fun ls hl => ?_)
  refine lv_iconst (v := 1) hx hb dL_law_20 (by decide) ?_
  refine x_newaD (len := 1) hC w_11 hW hS hA (by decide) (by decide) (Nat.le_of_ble_eq_true rfl) (by omega) (by omega) dL_law_21 (fun q33 ad34 K35 S36 H eS36 hag38 eqq33 ekq33 hW hS => ?_)
  replace hf := ltE hf S36 eS36
  obtain ⟨n37, en37⟩ : ∃ z, z = n31 + 1 := ⟨_, rfl⟩
  rw [← en37] at hag38 hW
  replace hf := ltE hf n37 en37
  have tq33 : n31 < n37 ∧ K35 n31 = 17 := ⟨by omega, ekq33⟩
  refine W.widen (k := cells + 212) (n := slots + 812798) (by omega) (by omega) ?_
  refine lv_astore (lv' := [(4, .ref (q33)), (3, .ref (q27)), (2, .ref (q14)), (1, .ref (q1)), (0, .ref b)]) hx hb dL_law_23 hl (by decide) rfl (fun ls hl => ?_)
  refine lv_iconst (v := 0) hx hb dL_law_25 (by decide) ?_
  refine lv_istore (lv' := [(5, .int 0), (4, .ref (q33)), (3, .ref (q27)), (2, .ref (q14)), (1, .ref (q1)), (0, .ref b)]) hx hb dL_law_26 hl (by decide) rfl (fun ls hl => ?_)
  obtain ⟨e1, e2, e3, e4, e5, e6⟩ := so6 hf
  subst e1
  subst e2
  subst e3
  subst e4
  subst e5
  subst e6
  exact kk ad34 K35 H locs ls ((((((Ag.rf.tr hag6).tr hag13).tr hag19).tr hag26).tr hag32).tr hag38) (hag38.t (hag32.t (hag26.t (hag19.t (hag13.t tq1))))) (hag38.t (hag32.t (hag26.t tq14))) (hag38.t tq27) tq33 hW hS (lv_sub hl [0, 1, 2, 3, 4, 5] (by rw [(hag38.e (hag32.t (hag26.t (hag19.t (hag13.t tq1)))) (hag32.e (hag26.t (hag19.t (hag13.t tq1))) (hag26.e (hag19.t (hag13.t tq1)) (hag19.e (hag13.t tq1) (hag13.e tq1 eqq1))))), (hag38.e (hag32.t (hag26.t tq14)) (hag32.e (hag26.t tq14) (hag26.e tq14 eqq14))), (hag38.e tq27 eqq27), eqq33] <;> rfl))
set_option maxHeartbeats 4000000 in
set_option maxRecDepth 100000 in
theorem c_law0 {p : Program} {e : Env} {R : Room} {s : State} {m : MethodId} {below : List Frame} {meth : Method} {c : Code} {Q : State → Prop} {b L : Nat} {xs : Nat → Int32} {H : Heap} {locs : List Loc} {ls : Array Slot} {cells slots : Nat} (l : Launch) (hfl : l.stackTraces = false) (g : GP) (ad : Nat → Nat) (n : Nat) (K : Nat → Nat) (F : Nat) (S0 : St) (o1 o2 o3 o4 : Nat) (i : Int32) (hC : Cx g p s m #[.ref b] c cL_law RL lw_tbl 9) (hX : va_X b L xs s s.heap) (hbl : b < s.heap.size) (hGs : GF g (fun q : Nat => s.heap.size ≤ q) s s.heap) (hW : Wb g ad n K S0 (fun q : Nat => s.heap.size ≤ q) H) (hS : va_S (fun q : Nat => s.heap.size ≤ q) s.heap H locs) (t1 : o1 < n ∧ K o1 = 9) (t2 : o2 < n ∧ K o2 = 10) (t3 : o3 < n ∧ K o3 = 13) (t4 : o4 < n ∧ K o4 = 17) (hl : lv_has ls 9 [(5, .int i), (4, .ref (ad o4)), (3, .ref (ad o3)), (2, .ref (ad o2)), (1, .ref (ad o1)), (0, .ref b)]) (hRf : 13 ≤ R.frames) (hRl : 280 ≤ R.locals) (hRc : cells + 20 ≤ R.cells) (hRs : slots + 8189 ≤ R.slots) (S9 : St) (n9 : Nat) (hf : f_law0 F xs L S0 n o1 o2 o3 o4 i = some (S9, n9))
    (kk : ∀ (ad9 K9 : Nat → Nat) (H1 : Heap) (locs1 : List Loc) (ls1 : Array Slot), Ag ad K n ad9 K9 n9 → Wb g ad9 n9 K9 S9 (fun q : Nat => s.heap.size ≤ q) H1 → va_S (fun q : Nat => s.heap.size ≤ q) s.heap H1 locs1 → lv_has ls1 9 [(5, .int i), (4, .ref (ad9 o4)), (3, .ref (ad9 o3)), (2, .ref (ad9 o2)), (1, .ref (ad9 o1)), (0, .ref b)] → W p l e R s m #[.ref b] below meth c H1 locs1 (cells + 20) (slots + 8189) Q (F0 m 3297 ls1 [])) :
    W p l e R s m #[.ref b] below meth c H locs cells slots Q (F0 m 296 ls []) := by
  have hx := hC.1
  have hb := hC.2.1
  have hml := hC.2.2.1
  have hown : s.vm.findClass RL = some m.cls := hC.2.2.2.1
  have hts := hC.2.2.2.2.1
  have hK := hC.2.2.2.2.2
  have hA : ∀ q : Nat, s.heap.size ≤ q → (fun q : Nat => s.heap.size ≤ q) q := fun _ h => h
  have hbA : ¬ (fun q : Nat => s.heap.size ≤ q) b := Nat.not_le.mpr hbl
  unfold f_law0 at hf
  refine lv_aload_n hx hb dL_law_296 rfl (lv_at hl 4 rfl) ?_
  refine lv_aload_n hx hb dL_law_297 rfl (lv_at hl 5 rfl) ?_
  refine lv_iload hx hb dL_law_298 (lv_at hl 0 rfl) ?_
  refine lv_iconst (v := 1) hx hb dL_law_300 (by decide) ?_
  refine lv_iadd hx hb dL_law_301 ?_
  replace hf := ckiE hf
  obtain ⟨h1, hf⟩ := hf
  refine va_sld hx hb hX hbl hbA hS h1 dL_law_302 ?_
  refine lv_aload_n hx hb dL_law_303 rfl (lv_at hl 5 rfl) ?_
  refine lv_iload hx hb dL_law_304 (lv_at hl 0 rfl) ?_
  refine lv_iconst (v := 2) hx hb dL_law_306 (by decide) ?_
  refine lv_iadd hx hb dL_law_307 ?_
  replace hf := ckiE hf
  obtain ⟨h2, hf⟩ := hf
  refine va_sld hx hb hX hbl hbA hS h2 dL_law_308 ?_
  refine lv_aload_n hx hb dL_law_309 rfl (lv_at hl 5 rfl) ?_
  refine lv_iload hx hb dL_law_310 (lv_at hl 0 rfl) ?_
  refine lv_iconst (v := 3) hx hb dL_law_312 (by decide) ?_
  refine lv_iadd hx hb dL_law_313 ?_
  replace hf := ckiE hf
  obtain ⟨h3, hf⟩ := hf
  refine va_sld hx hb hX hbl hbA hS h3 dL_law_314 ?_
  refine lv_aload_n hx hb dL_law_315 rfl (lv_at hl 5 rfl) ?_
  refine lv_iload hx hb dL_law_316 (lv_at hl 0 rfl) ?_
  refine lv_iconst (v := 4) hx hb dL_law_318 (by decide) ?_
  refine lv_iadd hx hb dL_law_319 ?_
  replace hf := ckiE hf
  obtain ⟨h4, hf⟩ := hf
  refine va_sld hx hb hX hbl hbA hS h4 dL_law_320 ?_
  refine lv_aload_n hx hb dL_law_321 rfl (lv_at hl 5 rfl) ?_
  refine lv_iload hx hb dL_law_322 (lv_at hl 0 rfl) ?_
  refine lv_iconst (v := 5) hx hb dL_law_324 (by decide) ?_
  refine lv_iadd hx hb dL_law_325 ?_
  replace hf := ckiE hf
  obtain ⟨h5, hf⟩ := hf
  refine va_sld hx hb hX hbl hbA hS h5 dL_law_326 ?_
  refine lv_aload_n hx hb dL_law_327 rfl (lv_at hl 2 rfl) ?_
  replace hf := obE hf
  obtain ⟨z6, hz6, hf⟩ := hf
  obtain ⟨r8, S7⟩ := z6
  replace hf := ltE (ltE hf r8 rfl) S7 rfl
  refine x_callSWc (As := [.ref (ad o1), .int (xs (Int32.toNatClampNeg (i + 1))), .int (xs (Int32.toNatClampNeg (i + 2))), .int (xs (Int32.toNatClampNeg (i + 3))), .int (xs (Int32.toNatClampNeg (i + 4))), .int (xs (Int32.toNatClampNeg (i + 5))), .ref (ad o3)]) (rest := []) (o := (some (.int r8))) (S1 := S7) hC hl.1 hW hS hGs hA (c_L_append l hfl g ad n K H.size F S0 o1 (xs (Int32.toNatClampNeg (i + 1))) (xs (Int32.toNatClampNeg (i + 2))) (xs (Int32.toNatClampNeg (i + 3))) (xs (Int32.toNatClampNeg (i + 4))) (xs (Int32.toNatClampNeg (i + 5))) o3 t1 t3 r8 S7 hz6) (vx_cwSW (hh := [(0, 16, 19, 13)]) 7 hts gL_law_L_append rfl rfl rfl (by decide +kernel) ⟨Nat.le_trans (Nat.le_of_ble_eq_true rfl) hRf, Nat.le_trans (Nat.le_of_ble_eq_true rfl) hRl⟩) rfl rfl (Nat.le_of_ble_eq_true rfl) dL_law_328 ⟨by omega, by omega⟩ (fun H locs hPz6 hW hS => ?_)
  refine W.widen (k := cells + 1) (n := slots + 6) (by omega) (by omega) ?_
  refine W.eq (g2 := F0 m 331 ls [.int r8]) rfl ?_
  refine lv_istore (lv' := [(6, .int r8), (5, .int i), (4, .ref (ad o4)), (3, .ref (ad o3)), (2, .ref (ad o2)), (1, .ref (ad o1)), (0, .ref b)]) hx hb dL_law_331 hl (by decide) rfl (fun ls hl => ?_)
  refine lv_aload_n hx hb dL_law_333 rfl (lv_at hl 4 rfl) ?_
  refine lv_aload_n hx hb dL_law_334 rfl (lv_at hl 6 rfl) ?_
  refine lv_iload hx hb dL_law_335 (lv_at hl 1 rfl) ?_
  refine lv_iconst (v := 1) hx hb dL_law_337 (by decide) ?_
  refine lv_iadd hx hb dL_law_338 ?_
  replace hf := ckiE hf
  obtain ⟨h10, hf⟩ := hf
  refine va_sld hx hb hX hbl hbA hS h10 dL_law_339 ?_
  refine lv_aload_n hx hb dL_law_340 rfl (lv_at hl 6 rfl) ?_
  refine lv_iload hx hb dL_law_341 (lv_at hl 1 rfl) ?_
  refine lv_iconst (v := 2) hx hb dL_law_343 (by decide) ?_
  refine lv_iadd hx hb dL_law_344 ?_
  replace hf := ckiE hf
  obtain ⟨h11, hf⟩ := hf
  refine va_sld hx hb hX hbl hbA hS h11 dL_law_345 ?_
  refine lv_aload_n hx hb dL_law_346 rfl (lv_at hl 6 rfl) ?_
  refine lv_iload hx hb dL_law_347 (lv_at hl 1 rfl) ?_
  refine lv_iconst (v := 3) hx hb dL_law_349 (by decide) ?_
  refine lv_iadd hx hb dL_law_350 ?_
  replace hf := ckiE hf
  obtain ⟨h12, hf⟩ := hf
  refine va_sld hx hb hX hbl hbA hS h12 dL_law_351 ?_
  refine lv_aload_n hx hb dL_law_352 rfl (lv_at hl 6 rfl) ?_
  refine lv_iload hx hb dL_law_353 (lv_at hl 1 rfl) ?_
  refine lv_iconst (v := 4) hx hb dL_law_355 (by decide) ?_
  refine lv_iadd hx hb dL_law_356 ?_
  replace hf := ckiE hf
  obtain ⟨h13, hf⟩ := hf
  refine va_sld hx hb hX hbl hbA hS h13 dL_law_357 ?_
  refine lv_aload_n hx hb dL_law_358 rfl (lv_at hl 6 rfl) ?_
  refine lv_iload hx hb dL_law_359 (lv_at hl 1 rfl) ?_
  refine lv_iconst (v := 5) hx hb dL_law_361 (by decide) ?_
  refine lv_iadd hx hb dL_law_362 ?_
  replace hf := ckiE hf
  obtain ⟨h14, hf⟩ := hf
  refine va_sld hx hb hX hbl hbA hS h14 dL_law_363 ?_
  replace hf := obE hf
  obtain ⟨z15, hz15, hf⟩ := hf
  obtain ⟨r17, S16⟩ := z15
  replace hf := ltE (ltE hf r17 rfl) S16 rfl
  refine x_callV (As := [.int (xs (Int32.toNatClampNeg (i + 1))), .int (xs (Int32.toNatClampNeg (i + 2))), .int (xs (Int32.toNatClampNeg (i + 3))), .int (xs (Int32.toNatClampNeg (i + 4))), .int (xs (Int32.toNatClampNeg (i + 5)))]) (rest := []) (o := (some (.int r17))) (S1 := S16) hC hl.1 hW hS hGs hA t2 rfl (show vwCl[10]? = some (RX11, TX11, 30) ∧ 10 < 11 from ⟨rfl, by decide⟩) (c_X11_append l g ad n K H.size F S7 o2 (xs (Int32.toNatClampNeg (i + 1))) (xs (Int32.toNatClampNeg (i + 2))) (xs (Int32.toNatClampNeg (i + 3))) (xs (Int32.toNatClampNeg (i + 4))) (xs (Int32.toNatClampNeg (i + 5))) t2 r17 S16 hz15) (cwV 5 hts gL_law_X11_append rfl rfl rfl (by decide +kernel) ⟨Nat.le_trans (Nat.le_of_ble_eq_true rfl) hRf, Nat.le_trans (Nat.le_of_ble_eq_true rfl) hRl⟩) rfl rfl (Nat.le_of_ble_eq_true rfl) dL_law_364 ⟨by omega, by omega⟩ (fun H locs hPz15 hW hS => ?_)
  refine W.eq (g2 := F0 m 367 ls [.int r17]) rfl ?_
  refine lv_istore (lv' := [(7, .int r17), (6, .int r8), (5, .int i), (4, .ref (ad o4)), (3, .ref (ad o3)), (2, .ref (ad o2)), (1, .ref (ad o1)), (0, .ref b)]) hx hb dL_law_367 hl (by decide) rfl (fun ls hl => ?_)
  refine lv_aload_n hx hb dL_law_369 rfl (lv_at hl 5 rfl) ?_
  replace hf := obE hf
  obtain ⟨z19, hz19, hf⟩ := hf
  obtain ⟨r21, S20⟩ := z19
  replace hf := ltE (ltE hf r21 rfl) S20 rfl
  refine x_callV (As := []) (rest := []) (o := (some (.int r21))) (S1 := S20) hC hl.1 hW hS hGs hA t2 rfl (show vwCl[10]? = some (RX11, TX11, 30) ∧ 10 < 11 from ⟨rfl, by decide⟩) (c_X11_thrown l g ad n K H.size F S16 o2 t2 r21 S20 hz19) (cwV 0 hts gL_law_X11_thrown rfl rfl rfl (by decide +kernel) ⟨Nat.le_trans (Nat.le_of_ble_eq_true rfl) hRf, Nat.le_trans (Nat.le_of_ble_eq_true rfl) hRl⟩) rfl rfl (Nat.le_of_ble_eq_true rfl) dL_law_370 ⟨by omega, by omega⟩ (fun H locs hPz19 hW hS => ?_)
  refine W.eq (g2 := F0 m 373 ls [.int r21]) rfl ?_
  refine lv_iload hx hb dL_law_373 (lv_at hl 1 rfl) ?_
  refine lv_icmp_eq (tgt := 380) hx hb dL_law_375 (by decide) (fun c23 => ?_) (fun c23 => ?_)
  · replace hf := ifT c23 hf
    refine lv_iload hx hb dL_law_380 (lv_at hl 1 rfl) ?_
    refine lv_if_ne (tgt := 397) hx hb dL_law_382 (by decide) (fun c24 => ?_) (fun c24 => ?_)
    · replace hf := ifT c24 hf
      refine lv_goto (tgt := 3297) hx hb dL_law_397 (by decide) ?_
      obtain ⟨e1, e2⟩ := so2 hf
      subst e1
      subst e2
      refine W.widen (k := cells + 20) (n := slots + 8189) (by omega) (by omega) ?_
      exact kk ad K _ _ ls Ag.rf hW hS (lv_sub hl [2, 3, 4, 5, 6, 7] rfl)
    · replace hf := ifF (fun q => q c24) hf
      refine lv_aload_n hx hb dL_law_385 rfl (lv_at hl 4 rfl) ?_
      refine lv_iconst (v := 0) hx hb dL_law_386 (by decide) ?_
      replace hf := ckiE hf
      obtain ⟨h25, hf⟩ := hf
      refine x_lald hC hW t3 rfl rfl h25 dL_law_387 ?_
      refine lv_iload hx hb dL_law_388 (lv_at hl 0 rfl) ?_
      refine lv_i2l (v := r17.toInt64) hx hb dL_law_390 rfl ?_
      refine W.lcmp hx hb dL_law_391 ?_
      refine lv_if_eq (tgt := 397) hx hb dL_law_392 (by decide) (fun c26 => ?_) (fun c26 => ?_)
      · replace hf := ifT c26 hf
        refine lv_goto (tgt := 3297) hx hb dL_law_397 (by decide) ?_
        obtain ⟨e1, e2⟩ := so2 hf
        subst e1
        subst e2
        refine W.widen (k := cells + 20) (n := slots + 8189) (by omega) (by omega) ?_
        exact kk ad K _ _ ls Ag.rf hW hS (lv_sub hl [2, 3, 4, 5, 6, 7] rfl)
      · replace hf := ifF c26 hf
        refine lv_iconst (v := 0) hx hb dL_law_395 (by decide) ?_
        cases hf
  · replace hf := ifF c23 hf
    refine lv_iconst (v := 0) hx hb dL_law_378 (by decide) ?_
    cases hf
set_option maxHeartbeats 4000000 in
set_option maxRecDepth 100000 in
theorem c_law1 {p : Program} {e : Env} {R : Room} {s : State} {m : MethodId} {below : List Frame} {meth : Method} {c : Code} {Q : State → Prop} {b L : Nat} {xs : Nat → Int32} {H : Heap} {locs : List Loc} {ls : Array Slot} {cells slots : Nat} (l : Launch) (hfl : l.stackTraces = false) (g : GP) (ad : Nat → Nat) (n : Nat) (K : Nat → Nat) (F : Nat) (S0 : St) (o1 o2 o3 o4 : Nat) (i : Int32) (hC : Cx g p s m #[.ref b] c cL_law RL lw_tbl 9) (hX : va_X b L xs s s.heap) (hbl : b < s.heap.size) (hGs : GF g (fun q : Nat => s.heap.size ≤ q) s s.heap) (hW : Wb g ad n K S0 (fun q : Nat => s.heap.size ≤ q) H) (hS : va_S (fun q : Nat => s.heap.size ≤ q) s.heap H locs) (t1 : o1 < n ∧ K o1 = 9) (t2 : o2 < n ∧ K o2 = 10) (t3 : o3 < n ∧ K o3 = 13) (t4 : o4 < n ∧ K o4 = 17) (hl : lv_has ls 9 [(5, .int i), (4, .ref (ad o4)), (3, .ref (ad o3)), (2, .ref (ad o2)), (1, .ref (ad o1)), (0, .ref b)]) (hRf : 13 ≤ R.frames) (hRl : 280 ≤ R.locals) (hRc : cells + 20 ≤ R.cells) (hRs : slots + 8189 ≤ R.slots) (S9 : St) (n9 : Nat) (hf : f_law1 F xs L S0 n o1 o2 o3 o4 i = some (S9, n9))
    (kk : ∀ (ad9 K9 : Nat → Nat) (H1 : Heap) (locs1 : List Loc) (ls1 : Array Slot), Ag ad K n ad9 K9 n9 → Wb g ad9 n9 K9 S9 (fun q : Nat => s.heap.size ≤ q) H1 → va_S (fun q : Nat => s.heap.size ≤ q) s.heap H1 locs1 → lv_has ls1 9 [(5, .int i), (4, .ref (ad9 o4)), (3, .ref (ad9 o3)), (2, .ref (ad9 o2)), (1, .ref (ad9 o1)), (0, .ref b)] → W p l e R s m #[.ref b] below meth c H1 locs1 (cells + 20) (slots + 8189) Q (F0 m 3297 ls1 [])) :
    W p l e R s m #[.ref b] below meth c H locs cells slots Q (F0 m 400 ls []) := by
  have hx := hC.1
  have hb := hC.2.1
  have hml := hC.2.2.1
  have hown : s.vm.findClass RL = some m.cls := hC.2.2.2.1
  have hts := hC.2.2.2.2.1
  have hK := hC.2.2.2.2.2
  have hA : ∀ q : Nat, s.heap.size ≤ q → (fun q : Nat => s.heap.size ≤ q) q := fun _ h => h
  have hbA : ¬ (fun q : Nat => s.heap.size ≤ q) b := Nat.not_le.mpr hbl
  unfold f_law1 at hf
  refine lv_aload_n hx hb dL_law_400 rfl (lv_at hl 4 rfl) ?_
  refine lv_aload_n hx hb dL_law_401 rfl (lv_at hl 5 rfl) ?_
  refine lv_iload hx hb dL_law_402 (lv_at hl 0 rfl) ?_
  refine lv_iconst (v := 1) hx hb dL_law_404 (by decide) ?_
  refine lv_iadd hx hb dL_law_405 ?_
  replace hf := ckiE hf
  obtain ⟨h1, hf⟩ := hf
  refine va_sld hx hb hX hbl hbA hS h1 dL_law_406 ?_
  replace hf := obE hf
  obtain ⟨z2, hz2, hf⟩ := hf
  obtain ⟨r4, S3⟩ := z2
  replace hf := ltE (ltE hf r4 rfl) S3 rfl
  refine x_callSWc (As := [.ref (ad o1), .int (xs (Int32.toNatClampNeg (i + 1)))]) (rest := []) (o := (some (.int r4))) (S1 := S3) hC hl.1 hW hS hGs hA (c_L_truncate l hfl g ad n K H.size F S0 o1 (xs (Int32.toNatClampNeg (i + 1))) t1 r4 S3 hz2) (vx_cwSW (hh := [(0, 5, 8, 19)]) 2 hts gL_law_L_truncate rfl rfl rfl (by decide +kernel) ⟨Nat.le_trans (Nat.le_of_ble_eq_true rfl) hRf, Nat.le_trans (Nat.le_of_ble_eq_true rfl) hRl⟩) rfl rfl (Nat.le_of_ble_eq_true rfl) dL_law_407 ⟨by omega, by omega⟩ (fun H locs hPz2 hW hS => ?_)
  refine W.widen (k := cells + 1) (n := slots + 6) (by omega) (by omega) ?_
  refine W.eq (g2 := F0 m 410 ls [.int r4]) rfl ?_
  refine lv_istore (lv' := [(6, .int r4), (5, .int i), (4, .ref (ad o4)), (3, .ref (ad o3)), (2, .ref (ad o2)), (1, .ref (ad o1)), (0, .ref b)]) hx hb dL_law_410 hl (by decide) rfl (fun ls hl => ?_)
  refine lv_aload_n hx hb dL_law_412 rfl (lv_at hl 4 rfl) ?_
  refine lv_aload_n hx hb dL_law_413 rfl (lv_at hl 6 rfl) ?_
  refine lv_iload hx hb dL_law_414 (lv_at hl 1 rfl) ?_
  refine lv_iconst (v := 1) hx hb dL_law_416 (by decide) ?_
  refine lv_iadd hx hb dL_law_417 ?_
  replace hf := ckiE hf
  obtain ⟨h6, hf⟩ := hf
  refine va_sld hx hb hX hbl hbA hS h6 dL_law_418 ?_
  replace hf := obE hf
  obtain ⟨S8, hz7, hf⟩ := hf
  refine x_callV (As := [.int (xs (Int32.toNatClampNeg (i + 1)))]) (rest := []) (o := none) (S1 := S8) hC hl.1 hW hS hGs hA t2 rfl (show vwCl[10]? = some (RX11, TX11, 30) ∧ 10 < 11 from ⟨rfl, by decide⟩) (c_X11_truncate l g ad n K H.size F S3 o2 (xs (Int32.toNatClampNeg (i + 1))) t2 S8 hz7) (cwV 1 hts gL_law_X11_truncate rfl rfl rfl (by decide +kernel) ⟨Nat.le_trans (Nat.le_of_ble_eq_true rfl) hRf, Nat.le_trans (Nat.le_of_ble_eq_true rfl) hRl⟩) rfl rfl (Nat.le_of_ble_eq_true rfl) dL_law_419 ⟨by omega, by omega⟩ (fun H locs hPz7 hW hS => ?_)
  refine W.eq (g2 := F0 m 422 ls []) rfl ?_
  refine lv_aload_n hx hb dL_law_422 rfl (lv_at hl 4 rfl) ?_
  replace hf := obE hf
  obtain ⟨z11, hz11, hf⟩ := hf
  obtain ⟨r13, S12⟩ := z11
  replace hf := ltE (ltE hf r13 rfl) S12 rfl
  refine x_callV (As := []) (rest := []) (o := (some (.int r13))) (S1 := S12) hC hl.1 hW hS hGs hA t2 rfl (show vwCl[10]? = some (RX11, TX11, 30) ∧ 10 < 11 from ⟨rfl, by decide⟩) (c_X11_thrown l g ad n K H.size F S8 o2 t2 r13 S12 hz11) (cwV 0 hts gL_law_X11_thrown rfl rfl rfl (by decide +kernel) ⟨Nat.le_trans (Nat.le_of_ble_eq_true rfl) hRf, Nat.le_trans (Nat.le_of_ble_eq_true rfl) hRl⟩) rfl rfl (Nat.le_of_ble_eq_true rfl) dL_law_423 ⟨by omega, by omega⟩ (fun H locs hPz11 hW hS => ?_)
  refine W.eq (g2 := F0 m 426 ls [.int r13]) rfl ?_
  refine lv_iload hx hb dL_law_426 (lv_at hl 0 rfl) ?_
  refine lv_icmp_eq (tgt := 433) hx hb dL_law_428 (by decide) (fun c15 => ?_) (fun c15 => ?_)
  · replace hf := ifT c15 hf
    refine lv_goto (tgt := 3297) hx hb dL_law_433 (by decide) ?_
    obtain ⟨e1, e2⟩ := so2 hf
    subst e1
    subst e2
    refine W.widen (k := cells + 20) (n := slots + 8189) (by omega) (by omega) ?_
    exact kk ad K _ _ ls Ag.rf hW hS (lv_sub hl [1, 2, 3, 4, 5, 6] rfl)
  · replace hf := ifF c15 hf
    refine lv_iconst (v := 0) hx hb dL_law_431 (by decide) ?_
    cases hf
set_option maxHeartbeats 4000000 in
set_option maxRecDepth 100000 in
theorem c_law2 {p : Program} {e : Env} {R : Room} {s : State} {m : MethodId} {below : List Frame} {meth : Method} {c : Code} {Q : State → Prop} {b L : Nat} {xs : Nat → Int32} {H : Heap} {locs : List Loc} {ls : Array Slot} {cells slots : Nat} (l : Launch) (hfl : l.stackTraces = false) (g : GP) (ad : Nat → Nat) (n : Nat) (K : Nat → Nat) (F : Nat) (S0 : St) (o1 o2 o3 o4 : Nat) (i : Int32) (hC : Cx g p s m #[.ref b] c cL_law RL lw_tbl 9) (hX : va_X b L xs s s.heap) (hbl : b < s.heap.size) (hGs : GF g (fun q : Nat => s.heap.size ≤ q) s s.heap) (hW : Wb g ad n K S0 (fun q : Nat => s.heap.size ≤ q) H) (hS : va_S (fun q : Nat => s.heap.size ≤ q) s.heap H locs) (t1 : o1 < n ∧ K o1 = 9) (t2 : o2 < n ∧ K o2 = 10) (t3 : o3 < n ∧ K o3 = 13) (t4 : o4 < n ∧ K o4 = 17) (hl : lv_has ls 9 [(5, .int i), (4, .ref (ad o4)), (3, .ref (ad o3)), (2, .ref (ad o2)), (1, .ref (ad o1)), (0, .ref b)]) (hRf : 13 ≤ R.frames) (hRl : 280 ≤ R.locals) (hRc : cells + 20 ≤ R.cells) (hRs : slots + 8189 ≤ R.slots) (S9 : St) (n9 : Nat) (hf : f_law2 F xs L S0 n o1 o2 o3 o4 i = some (S9, n9))
    (kk : ∀ (ad9 K9 : Nat → Nat) (H1 : Heap) (locs1 : List Loc) (ls1 : Array Slot), Ag ad K n ad9 K9 n9 → Wb g ad9 n9 K9 S9 (fun q : Nat => s.heap.size ≤ q) H1 → va_S (fun q : Nat => s.heap.size ≤ q) s.heap H1 locs1 → lv_has ls1 9 [(5, .int i), (4, .ref (ad9 o4)), (3, .ref (ad9 o3)), (2, .ref (ad9 o2)), (1, .ref (ad9 o1)), (0, .ref b)] → W p l e R s m #[.ref b] below meth c H1 locs1 (cells + 20) (slots + 8189) Q (F0 m 3297 ls1 [])) :
    W p l e R s m #[.ref b] below meth c H locs cells slots Q (F0 m 436 ls []) := by
  have hx := hC.1
  have hb := hC.2.1
  have hml := hC.2.2.1
  have hown : s.vm.findClass RL = some m.cls := hC.2.2.2.1
  have hts := hC.2.2.2.2.1
  have hK := hC.2.2.2.2.2
  have hA : ∀ q : Nat, s.heap.size ≤ q → (fun q : Nat => s.heap.size ≤ q) q := fun _ h => h
  have hbA : ¬ (fun q : Nat => s.heap.size ≤ q) b := Nat.not_le.mpr hbl
  unfold f_law2 at hf
  refine lv_aload_n hx hb dL_law_436 rfl (lv_at hl 4 rfl) ?_
  replace hf := obE hf
  obtain ⟨z1, hz1, hf⟩ := hf
  obtain ⟨r3, S2, n4⟩ := z1
  replace hf := ltE (ltE (ltE hf r3 rfl) S2 rfl) n4 rfl
  refine x_acallV (As := []) (rest := []) (S1 := S2) (n1 := n4) (o := (fun _ => some (.int r3))) (P := (fun _ => True)) hC hl.1 hW hS hGs hA t1 rfl (show vwCl[9]? = some (RX10, TX10, 11) ∧ 9 < 11 from ⟨rfl, by decide⟩) (c_X10_load l g ad n K H.size F S0 o1 t1 r3 S2 n4 hz1) (cwV 0 hts gL_law_X10_load rfl rfl rfl (by decide +kernel) ⟨Nat.le_trans (Nat.le_of_ble_eq_true rfl) hRf, Nat.le_trans (Nat.le_of_ble_eq_true rfl) hRl⟩) rfl rfl (Nat.le_of_ble_eq_true rfl) dL_law_437 ⟨by omega, by omega⟩ (fun ad5 K6 H locs hag7 hPz1 hW hS => ?_)
  refine W.widen (k := cells + 20) (n := slots + 148) (by omega) (by omega) ?_
  refine W.eq (g2 := F0 m 440 ls [.int r3]) rfl ?_
  refine lv_aload_n hx hb dL_law_440 rfl (lv_at hl 3 rfl) ?_
  replace hf := obE hf
  obtain ⟨z8, hz8, hf⟩ := hf
  obtain ⟨r10, S9⟩ := z8
  replace hf := ltE (ltE hf r10 rfl) S9 rfl
  refine x_callV (As := []) (rest := [.int r3]) (o := (some (.int r10))) (S1 := S9) hC hl.1 hW hS hGs hA (hag7.t t2) rfl (show vwCl[10]? = some (RX11, TX11, 30) ∧ 10 < 11 from ⟨rfl, by decide⟩) (c_X11_load l g ad5 n4 K6 H.size F S2 o2 (hag7.t t2) r10 S9 hz8) (cwV 0 hts gL_law_X11_load rfl rfl rfl (by decide +kernel) ⟨Nat.le_trans (Nat.le_of_ble_eq_true rfl) hRf, Nat.le_trans (Nat.le_of_ble_eq_true rfl) hRl⟩) rfl (by rw [(hag7.e t2 rfl)] <;> rfl) (Nat.le_of_ble_eq_true rfl) dL_law_441 ⟨by omega, by omega⟩ (fun H locs hPz8 hW hS => ?_)
  refine W.eq (g2 := F0 m 444 ls [.int r10, .int r3]) rfl ?_
  refine lv_icmp_eq (tgt := 3297) hx hb dL_law_444 (by decide) (fun c12 => ?_) (fun c12 => ?_)
  · replace hf := ifT c12 hf
    obtain ⟨e1, e2⟩ := so2 hf
    subst e1
    subst e2
    refine W.widen (k := cells + 20) (n := slots + 8189) (by omega) (by omega) ?_
    exact kk ad5 K6 _ _ ls (Ag.rf.tr hag7) hW hS (lv_sub hl [0, 1, 2, 3, 4, 5] (by rw [(hag7.e t1 rfl), (hag7.e t2 rfl), (hag7.e t3 rfl), (hag7.e t4 rfl)] <;> rfl))
  · replace hf := ifF c12 hf
    refine lv_iconst (v := 0) hx hb dL_law_447 (by decide) ?_
    cases hf
set_option maxHeartbeats 4000000 in
set_option maxRecDepth 100000 in
theorem c_law3 {p : Program} {e : Env} {R : Room} {s : State} {m : MethodId} {below : List Frame} {meth : Method} {c : Code} {Q : State → Prop} {b L : Nat} {xs : Nat → Int32} {H : Heap} {locs : List Loc} {ls : Array Slot} {cells slots : Nat} (l : Launch) (hfl : l.stackTraces = false) (g : GP) (ad : Nat → Nat) (n : Nat) (K : Nat → Nat) (F : Nat) (S0 : St) (o1 o2 o3 o4 : Nat) (i : Int32) (hC : Cx g p s m #[.ref b] c cL_law RL lw_tbl 9) (hX : va_X b L xs s s.heap) (hbl : b < s.heap.size) (hGs : GF g (fun q : Nat => s.heap.size ≤ q) s s.heap) (hW : Wb g ad n K S0 (fun q : Nat => s.heap.size ≤ q) H) (hS : va_S (fun q : Nat => s.heap.size ≤ q) s.heap H locs) (t1 : o1 < n ∧ K o1 = 9) (t2 : o2 < n ∧ K o2 = 10) (t3 : o3 < n ∧ K o3 = 13) (t4 : o4 < n ∧ K o4 = 17) (hl : lv_has ls 9 [(5, .int i), (4, .ref (ad o4)), (3, .ref (ad o3)), (2, .ref (ad o2)), (1, .ref (ad o1)), (0, .ref b)]) (hRf : 13 ≤ R.frames) (hRl : 280 ≤ R.locals) (hRc : cells + 20 ≤ R.cells) (hRs : slots + 8189 ≤ R.slots) (S9 : St) (n9 : Nat) (hf : f_law3 F xs L S0 n o1 o2 o3 o4 i = some (S9, n9))
    (kk : ∀ (ad9 K9 : Nat → Nat) (H1 : Heap) (locs1 : List Loc) (ls1 : Array Slot), Ag ad K n ad9 K9 n9 → Wb g ad9 n9 K9 S9 (fun q : Nat => s.heap.size ≤ q) H1 → va_S (fun q : Nat => s.heap.size ≤ q) s.heap H1 locs1 → lv_has ls1 9 [(5, .int i), (4, .ref (ad9 o4)), (3, .ref (ad9 o3)), (2, .ref (ad9 o2)), (1, .ref (ad9 o1)), (0, .ref b)] → W p l e R s m #[.ref b] below meth c H1 locs1 (cells + 20) (slots + 8189) Q (F0 m 3297 ls1 [])) :
    W p l e R s m #[.ref b] below meth c H locs cells slots Q (F0 m 449 ls []) := by
  have hx := hC.1
  have hb := hC.2.1
  have hml := hC.2.2.1
  have hown : s.vm.findClass RL = some m.cls := hC.2.2.2.1
  have hts := hC.2.2.2.2.1
  have hK := hC.2.2.2.2.2
  have hA : ∀ q : Nat, s.heap.size ≤ q → (fun q : Nat => s.heap.size ≤ q) q := fun _ h => h
  have hbA : ¬ (fun q : Nat => s.heap.size ≤ q) b := Nat.not_le.mpr hbl
  unfold f_law3 at hf
  refine lv_aload_n hx hb dL_law_449 rfl (lv_at hl 4 rfl) ?_
  replace hf := obE hf
  obtain ⟨z1, hz1, hf⟩ := hf
  obtain ⟨r3, S2⟩ := z1
  replace hf := ltE (ltE hf r3 rfl) S2 rfl
  refine x_callV (As := []) (rest := []) (o := (some (.int r3))) (S1 := S2) hC hl.1 hW hS hGs hA t1 rfl (show vwCl[9]? = some (RX10, TX10, 11) ∧ 9 < 11 from ⟨rfl, by decide⟩) (c_X10_errorCode l g ad n K H.size F S0 o1 t1 r3 S2 hz1) (cwV 0 hts gL_law_X10_errorCode rfl rfl rfl (by decide +kernel) ⟨Nat.le_trans (Nat.le_of_ble_eq_true rfl) hRf, Nat.le_trans (Nat.le_of_ble_eq_true rfl) hRl⟩) rfl rfl (Nat.le_of_ble_eq_true rfl) dL_law_450 ⟨by omega, by omega⟩ (fun H locs hPz1 hW hS => ?_)
  refine W.eq (g2 := F0 m 453 ls [.int r3]) rfl ?_
  refine lv_aload_n hx hb dL_law_453 rfl (lv_at hl 3 rfl) ?_
  replace hf := obE hf
  obtain ⟨z5, hz5, hf⟩ := hf
  obtain ⟨r7, S6⟩ := z5
  replace hf := ltE (ltE hf r7 rfl) S6 rfl
  refine x_callV (As := []) (rest := [.int r3]) (o := (some (.int r7))) (S1 := S6) hC hl.1 hW hS hGs hA t2 rfl (show vwCl[10]? = some (RX11, TX11, 30) ∧ 10 < 11 from ⟨rfl, by decide⟩) (c_X11_errorCode l g ad n K H.size F S2 o2 t2 r7 S6 hz5) (cwV 0 hts gL_law_X11_errorCode rfl rfl rfl (by decide +kernel) ⟨Nat.le_trans (Nat.le_of_ble_eq_true rfl) hRf, Nat.le_trans (Nat.le_of_ble_eq_true rfl) hRl⟩) rfl rfl (Nat.le_of_ble_eq_true rfl) dL_law_454 ⟨by omega, by omega⟩ (fun H locs hPz5 hW hS => ?_)
  refine W.eq (g2 := F0 m 457 ls [.int r7, .int r3]) rfl ?_
  refine lv_icmp_eq (tgt := 3297) hx hb dL_law_457 (by decide) (fun c9 => ?_) (fun c9 => ?_)
  · replace hf := ifT c9 hf
    obtain ⟨e1, e2⟩ := so2 hf
    subst e1
    subst e2
    refine W.widen (k := cells + 20) (n := slots + 8189) (by omega) (by omega) ?_
    exact kk ad K _ _ ls Ag.rf hW hS (lv_sub hl [0, 1, 2, 3, 4, 5] rfl)
  · replace hf := ifF c9 hf
    refine lv_iconst (v := 0) hx hb dL_law_460 (by decide) ?_
    cases hf
set_option maxHeartbeats 4000000 in
set_option maxRecDepth 100000 in
theorem c_law4 {p : Program} {e : Env} {R : Room} {s : State} {m : MethodId} {below : List Frame} {meth : Method} {c : Code} {Q : State → Prop} {b L : Nat} {xs : Nat → Int32} {H : Heap} {locs : List Loc} {ls : Array Slot} {cells slots : Nat} (l : Launch) (hfl : l.stackTraces = false) (g : GP) (ad : Nat → Nat) (n : Nat) (K : Nat → Nat) (F : Nat) (S0 : St) (o1 o2 o3 o4 : Nat) (i : Int32) (hC : Cx g p s m #[.ref b] c cL_law RL lw_tbl 9) (hX : va_X b L xs s s.heap) (hbl : b < s.heap.size) (hGs : GF g (fun q : Nat => s.heap.size ≤ q) s s.heap) (hW : Wb g ad n K S0 (fun q : Nat => s.heap.size ≤ q) H) (hS : va_S (fun q : Nat => s.heap.size ≤ q) s.heap H locs) (t1 : o1 < n ∧ K o1 = 9) (t2 : o2 < n ∧ K o2 = 10) (t3 : o3 < n ∧ K o3 = 13) (t4 : o4 < n ∧ K o4 = 17) (hl : lv_has ls 9 [(5, .int i), (4, .ref (ad o4)), (3, .ref (ad o3)), (2, .ref (ad o2)), (1, .ref (ad o1)), (0, .ref b)]) (hRf : 13 ≤ R.frames) (hRl : 280 ≤ R.locals) (hRc : cells + 20 ≤ R.cells) (hRs : slots + 8189 ≤ R.slots) (S9 : St) (n9 : Nat) (hf : f_law4 F xs L S0 n o1 o2 o3 o4 i = some (S9, n9))
    (kk : ∀ (ad9 K9 : Nat → Nat) (H1 : Heap) (locs1 : List Loc) (ls1 : Array Slot), Ag ad K n ad9 K9 n9 → Wb g ad9 n9 K9 S9 (fun q : Nat => s.heap.size ≤ q) H1 → va_S (fun q : Nat => s.heap.size ≤ q) s.heap H1 locs1 → lv_has ls1 9 [(5, .int i), (4, .ref (ad9 o4)), (3, .ref (ad9 o3)), (2, .ref (ad9 o2)), (1, .ref (ad9 o1)), (0, .ref b)] → W p l e R s m #[.ref b] below meth c H1 locs1 (cells + 20) (slots + 8189) Q (F0 m 3297 ls1 [])) :
    W p l e R s m #[.ref b] below meth c H locs cells slots Q (F0 m 462 ls []) := by
  have hx := hC.1
  have hb := hC.2.1
  have hml := hC.2.2.1
  have hown : s.vm.findClass RL = some m.cls := hC.2.2.2.1
  have hts := hC.2.2.2.2.1
  have hK := hC.2.2.2.2.2
  have hA : ∀ q : Nat, s.heap.size ≤ q → (fun q : Nat => s.heap.size ≤ q) q := fun _ h => h
  have hbA : ¬ (fun q : Nat => s.heap.size ≤ q) b := Nat.not_le.mpr hbl
  unfold f_law4 at hf
  refine lv_aload_n hx hb dL_law_462 rfl (lv_at hl 4 rfl) ?_
  replace hf := obE hf
  obtain ⟨z1, hz1, hf⟩ := hf
  obtain ⟨r3, S2⟩ := z1
  replace hf := ltE (ltE hf r3 rfl) S2 rfl
  refine x_callV (As := []) (rest := []) (o := (some (.int r3))) (S1 := S2) hC hl.1 hW hS hGs hA t1 rfl (show vwCl[9]? = some (RX10, TX10, 11) ∧ 9 < 11 from ⟨rfl, by decide⟩) (c_X10_errorPosition l g ad n K H.size F S0 o1 t1 r3 S2 hz1) (cwV 0 hts gL_law_X10_errorPosition rfl rfl rfl (by decide +kernel) ⟨Nat.le_trans (Nat.le_of_ble_eq_true rfl) hRf, Nat.le_trans (Nat.le_of_ble_eq_true rfl) hRl⟩) rfl rfl (Nat.le_of_ble_eq_true rfl) dL_law_463 ⟨by omega, by omega⟩ (fun H locs hPz1 hW hS => ?_)
  refine W.eq (g2 := F0 m 466 ls [.int r3]) rfl ?_
  refine lv_aload_n hx hb dL_law_466 rfl (lv_at hl 3 rfl) ?_
  replace hf := obE hf
  obtain ⟨z5, hz5, hf⟩ := hf
  obtain ⟨r7, S6⟩ := z5
  replace hf := ltE (ltE hf r7 rfl) S6 rfl
  refine x_callV (As := []) (rest := [.int r3]) (o := (some (.int r7))) (S1 := S6) hC hl.1 hW hS hGs hA t2 rfl (show vwCl[10]? = some (RX11, TX11, 30) ∧ 10 < 11 from ⟨rfl, by decide⟩) (c_X11_errorPosition l g ad n K H.size F S2 o2 t2 r7 S6 hz5) (cwV 0 hts gL_law_X11_errorPosition rfl rfl rfl (by decide +kernel) ⟨Nat.le_trans (Nat.le_of_ble_eq_true rfl) hRf, Nat.le_trans (Nat.le_of_ble_eq_true rfl) hRl⟩) rfl rfl (Nat.le_of_ble_eq_true rfl) dL_law_467 ⟨by omega, by omega⟩ (fun H locs hPz5 hW hS => ?_)
  refine W.eq (g2 := F0 m 470 ls [.int r7, .int r3]) rfl ?_
  refine lv_icmp_eq (tgt := 3297) hx hb dL_law_470 (by decide) (fun c9 => ?_) (fun c9 => ?_)
  · replace hf := ifT c9 hf
    obtain ⟨e1, e2⟩ := so2 hf
    subst e1
    subst e2
    refine W.widen (k := cells + 20) (n := slots + 8189) (by omega) (by omega) ?_
    exact kk ad K _ _ ls Ag.rf hW hS (lv_sub hl [0, 1, 2, 3, 4, 5] rfl)
  · replace hf := ifF c9 hf
    refine lv_iconst (v := 0) hx hb dL_law_473 (by decide) ?_
    cases hf
set_option maxHeartbeats 4000000 in
set_option maxRecDepth 100000 in
theorem c_law5 {p : Program} {e : Env} {R : Room} {s : State} {m : MethodId} {below : List Frame} {meth : Method} {c : Code} {Q : State → Prop} {b L : Nat} {xs : Nat → Int32} {H : Heap} {locs : List Loc} {ls : Array Slot} {cells slots : Nat} (l : Launch) (hfl : l.stackTraces = false) (g : GP) (ad : Nat → Nat) (n : Nat) (K : Nat → Nat) (F : Nat) (S0 : St) (o1 o2 o3 o4 : Nat) (i : Int32) (hC : Cx g p s m #[.ref b] c cL_law RL lw_tbl 9) (hX : va_X b L xs s s.heap) (hbl : b < s.heap.size) (hGs : GF g (fun q : Nat => s.heap.size ≤ q) s s.heap) (hW : Wb g ad n K S0 (fun q : Nat => s.heap.size ≤ q) H) (hS : va_S (fun q : Nat => s.heap.size ≤ q) s.heap H locs) (t1 : o1 < n ∧ K o1 = 9) (t2 : o2 < n ∧ K o2 = 10) (t3 : o3 < n ∧ K o3 = 13) (t4 : o4 < n ∧ K o4 = 17) (hl : lv_has ls 9 [(5, .int i), (4, .ref (ad o4)), (3, .ref (ad o3)), (2, .ref (ad o2)), (1, .ref (ad o1)), (0, .ref b)]) (hRf : 13 ≤ R.frames) (hRl : 280 ≤ R.locals) (hRc : cells + 20 ≤ R.cells) (hRs : slots + 8189 ≤ R.slots) (S9 : St) (n9 : Nat) (hf : f_law5 F xs L S0 n o1 o2 o3 o4 i = some (S9, n9))
    (kk : ∀ (ad9 K9 : Nat → Nat) (H1 : Heap) (locs1 : List Loc) (ls1 : Array Slot), Ag ad K n ad9 K9 n9 → Wb g ad9 n9 K9 S9 (fun q : Nat => s.heap.size ≤ q) H1 → va_S (fun q : Nat => s.heap.size ≤ q) s.heap H1 locs1 → lv_has ls1 9 [(5, .int i), (4, .ref (ad9 o4)), (3, .ref (ad9 o3)), (2, .ref (ad9 o2)), (1, .ref (ad9 o1)), (0, .ref b)] → W p l e R s m #[.ref b] below meth c H1 locs1 (cells + 20) (slots + 8189) Q (F0 m 3297 ls1 [])) :
    W p l e R s m #[.ref b] below meth c H locs cells slots Q (F0 m 475 ls []) := by
  have hx := hC.1
  have hb := hC.2.1
  have hml := hC.2.2.1
  have hown : s.vm.findClass RL = some m.cls := hC.2.2.2.1
  have hts := hC.2.2.2.2.1
  have hK := hC.2.2.2.2.2
  have hA : ∀ q : Nat, s.heap.size ≤ q → (fun q : Nat => s.heap.size ≤ q) q := fun _ h => h
  have hbA : ¬ (fun q : Nat => s.heap.size ≤ q) b := Nat.not_le.mpr hbl
  unfold f_law5 at hf
  refine lv_aload_n hx hb dL_law_475 rfl (lv_at hl 4 rfl) ?_
  refine lv_aload_n hx hb dL_law_476 rfl (lv_at hl 5 rfl) ?_
  refine lv_iload hx hb dL_law_477 (lv_at hl 0 rfl) ?_
  refine lv_iconst (v := 1) hx hb dL_law_479 (by decide) ?_
  refine lv_iadd hx hb dL_law_480 ?_
  replace hf := ckiE hf
  obtain ⟨h1, hf⟩ := hf
  refine va_sld hx hb hX hbl hbA hS h1 dL_law_481 ?_
  refine lv_aload_n hx hb dL_law_482 rfl (lv_at hl 2 rfl) ?_
  replace hf := obE hf
  obtain ⟨z2, hz2, hf⟩ := hf
  obtain ⟨r4, S3⟩ := z2
  replace hf := ltE (ltE hf r4 rfl) S3 rfl
  refine x_callSWc (As := [.ref (ad o1), .int (xs (Int32.toNatClampNeg (i + 1))), .ref (ad o3)]) (rest := []) (o := (some (.int r4))) (S1 := S3) hC hl.1 hW hS hGs hA (c_L_find l hfl g ad n K H.size F S0 o1 (xs (Int32.toNatClampNeg (i + 1))) o3 t1 t3 r4 S3 hz2) (vx_cwSW (hh := [(0, 9, 12, 19)]) 3 hts gL_law_L_find rfl rfl rfl (by decide +kernel) ⟨Nat.le_trans (Nat.le_of_ble_eq_true rfl) hRf, Nat.le_trans (Nat.le_of_ble_eq_true rfl) hRl⟩) rfl rfl (Nat.le_of_ble_eq_true rfl) dL_law_483 ⟨by omega, by omega⟩ (fun H locs hPz2 hW hS => ?_)
  refine W.widen (k := cells + 1) (n := slots + 6) (by omega) (by omega) ?_
  refine W.eq (g2 := F0 m 486 ls [.int r4]) rfl ?_
  refine lv_istore (lv' := [(6, .int r4), (5, .int i), (4, .ref (ad o4)), (3, .ref (ad o3)), (2, .ref (ad o2)), (1, .ref (ad o1)), (0, .ref b)]) hx hb dL_law_486 hl (by decide) rfl (fun ls hl => ?_)
  refine lv_aload_n hx hb dL_law_488 rfl (lv_at hl 4 rfl) ?_
  refine lv_aload_n hx hb dL_law_489 rfl (lv_at hl 6 rfl) ?_
  refine lv_iload hx hb dL_law_490 (lv_at hl 1 rfl) ?_
  refine lv_iconst (v := 1) hx hb dL_law_492 (by decide) ?_
  refine lv_iadd hx hb dL_law_493 ?_
  replace hf := ckiE hf
  obtain ⟨h6, hf⟩ := hf
  refine va_sld hx hb hX hbl hbA hS h6 dL_law_494 ?_
  replace hf := obE hf
  obtain ⟨z7, hz7, hf⟩ := hf
  obtain ⟨r9, S8⟩ := z7
  replace hf := ltE (ltE hf r9 rfl) S8 rfl
  refine x_callV (As := [.int (xs (Int32.toNatClampNeg (i + 1)))]) (rest := []) (o := (some (.int r9))) (S1 := S8) hC hl.1 hW hS hGs hA t2 rfl (show vwCl[10]? = some (RX11, TX11, 30) ∧ 10 < 11 from ⟨rfl, by decide⟩) (c_X11_find l g ad n K H.size F S3 o2 (xs (Int32.toNatClampNeg (i + 1))) t2 r9 S8 hz7) (cwV 1 hts gL_law_X11_find rfl rfl rfl (by decide +kernel) ⟨Nat.le_trans (Nat.le_of_ble_eq_true rfl) hRf, Nat.le_trans (Nat.le_of_ble_eq_true rfl) hRl⟩) rfl rfl (Nat.le_of_ble_eq_true rfl) dL_law_495 ⟨by omega, by omega⟩ (fun H locs hPz7 hW hS => ?_)
  refine W.eq (g2 := F0 m 498 ls [.int r9]) rfl ?_
  refine lv_istore (lv' := [(7, .int r9), (6, .int r4), (5, .int i), (4, .ref (ad o4)), (3, .ref (ad o3)), (2, .ref (ad o2)), (1, .ref (ad o1)), (0, .ref b)]) hx hb dL_law_498 hl (by decide) rfl (fun ls hl => ?_)
  refine lv_aload_n hx hb dL_law_500 rfl (lv_at hl 5 rfl) ?_
  replace hf := obE hf
  obtain ⟨z11, hz11, hf⟩ := hf
  obtain ⟨r13, S12⟩ := z11
  replace hf := ltE (ltE hf r13 rfl) S12 rfl
  refine x_callV (As := []) (rest := []) (o := (some (.int r13))) (S1 := S12) hC hl.1 hW hS hGs hA t2 rfl (show vwCl[10]? = some (RX11, TX11, 30) ∧ 10 < 11 from ⟨rfl, by decide⟩) (c_X11_thrown l g ad n K H.size F S8 o2 t2 r13 S12 hz11) (cwV 0 hts gL_law_X11_thrown rfl rfl rfl (by decide +kernel) ⟨Nat.le_trans (Nat.le_of_ble_eq_true rfl) hRf, Nat.le_trans (Nat.le_of_ble_eq_true rfl) hRl⟩) rfl rfl (Nat.le_of_ble_eq_true rfl) dL_law_501 ⟨by omega, by omega⟩ (fun H locs hPz11 hW hS => ?_)
  refine W.eq (g2 := F0 m 504 ls [.int r13]) rfl ?_
  refine lv_iload hx hb dL_law_504 (lv_at hl 1 rfl) ?_
  refine lv_icmp_eq (tgt := 511) hx hb dL_law_506 (by decide) (fun c15 => ?_) (fun c15 => ?_)
  · replace hf := ifT c15 hf
    refine lv_iload hx hb dL_law_511 (lv_at hl 1 rfl) ?_
    refine lv_if_ne (tgt := 528) hx hb dL_law_513 (by decide) (fun c16 => ?_) (fun c16 => ?_)
    · replace hf := ifT c16 hf
      refine lv_goto (tgt := 3297) hx hb dL_law_528 (by decide) ?_
      obtain ⟨e1, e2⟩ := so2 hf
      subst e1
      subst e2
      refine W.widen (k := cells + 20) (n := slots + 8189) (by omega) (by omega) ?_
      exact kk ad K _ _ ls Ag.rf hW hS (lv_sub hl [2, 3, 4, 5, 6, 7] rfl)
    · replace hf := ifF (fun q => q c16) hf
      refine lv_aload_n hx hb dL_law_516 rfl (lv_at hl 4 rfl) ?_
      refine lv_iconst (v := 0) hx hb dL_law_517 (by decide) ?_
      replace hf := ckiE hf
      obtain ⟨h17, hf⟩ := hf
      refine x_lald hC hW t3 rfl rfl h17 dL_law_518 ?_
      refine lv_iload hx hb dL_law_519 (lv_at hl 0 rfl) ?_
      refine lv_i2l (v := r9.toInt64) hx hb dL_law_521 rfl ?_
      refine W.lcmp hx hb dL_law_522 ?_
      refine lv_if_eq (tgt := 528) hx hb dL_law_523 (by decide) (fun c18 => ?_) (fun c18 => ?_)
      · replace hf := ifT c18 hf
        refine lv_goto (tgt := 3297) hx hb dL_law_528 (by decide) ?_
        obtain ⟨e1, e2⟩ := so2 hf
        subst e1
        subst e2
        refine W.widen (k := cells + 20) (n := slots + 8189) (by omega) (by omega) ?_
        exact kk ad K _ _ ls Ag.rf hW hS (lv_sub hl [2, 3, 4, 5, 6, 7] rfl)
      · replace hf := ifF c18 hf
        refine lv_iconst (v := 0) hx hb dL_law_526 (by decide) ?_
        cases hf
  · replace hf := ifF c15 hf
    refine lv_iconst (v := 0) hx hb dL_law_509 (by decide) ?_
    cases hf
set_option maxHeartbeats 4000000 in
set_option maxRecDepth 100000 in
theorem c_law6 {p : Program} {e : Env} {R : Room} {s : State} {m : MethodId} {below : List Frame} {meth : Method} {c : Code} {Q : State → Prop} {b L : Nat} {xs : Nat → Int32} {H : Heap} {locs : List Loc} {ls : Array Slot} {cells slots : Nat} (l : Launch) (hfl : l.stackTraces = false) (g : GP) (ad : Nat → Nat) (n : Nat) (K : Nat → Nat) (F : Nat) (S0 : St) (o1 o2 o3 o4 : Nat) (i : Int32) (hC : Cx g p s m #[.ref b] c cL_law RL lw_tbl 9) (hX : va_X b L xs s s.heap) (hbl : b < s.heap.size) (hGs : GF g (fun q : Nat => s.heap.size ≤ q) s s.heap) (hW : Wb g ad n K S0 (fun q : Nat => s.heap.size ≤ q) H) (hS : va_S (fun q : Nat => s.heap.size ≤ q) s.heap H locs) (t1 : o1 < n ∧ K o1 = 9) (t2 : o2 < n ∧ K o2 = 10) (t3 : o3 < n ∧ K o3 = 13) (t4 : o4 < n ∧ K o4 = 17) (hl : lv_has ls 9 [(5, .int i), (4, .ref (ad o4)), (3, .ref (ad o3)), (2, .ref (ad o2)), (1, .ref (ad o1)), (0, .ref b)]) (hRf : 13 ≤ R.frames) (hRl : 280 ≤ R.locals) (hRc : cells + 20 ≤ R.cells) (hRs : slots + 8189 ≤ R.slots) (S9 : St) (n9 : Nat) (hf : f_law6 F xs L S0 n o1 o2 o3 o4 i = some (S9, n9))
    (kk : ∀ (ad9 K9 : Nat → Nat) (H1 : Heap) (locs1 : List Loc) (ls1 : Array Slot), Ag ad K n ad9 K9 n9 → Wb g ad9 n9 K9 S9 (fun q : Nat => s.heap.size ≤ q) H1 → va_S (fun q : Nat => s.heap.size ≤ q) s.heap H1 locs1 → lv_has ls1 9 [(5, .int i), (4, .ref (ad9 o4)), (3, .ref (ad9 o3)), (2, .ref (ad9 o2)), (1, .ref (ad9 o1)), (0, .ref b)] → W p l e R s m #[.ref b] below meth c H1 locs1 (cells + 20) (slots + 8189) Q (F0 m 3297 ls1 [])) :
    W p l e R s m #[.ref b] below meth c H locs cells slots Q (F0 m 531 ls []) := by
  have hx := hC.1
  have hb := hC.2.1
  have hml := hC.2.2.1
  have hown : s.vm.findClass RL = some m.cls := hC.2.2.2.1
  have hts := hC.2.2.2.2.1
  have hK := hC.2.2.2.2.2
  have hA : ∀ q : Nat, s.heap.size ≤ q → (fun q : Nat => s.heap.size ≤ q) q := fun _ h => h
  have hbA : ¬ (fun q : Nat => s.heap.size ≤ q) b := Nat.not_le.mpr hbl
  unfold f_law6 at hf
  refine lv_aload_n hx hb dL_law_531 rfl (lv_at hl 4 rfl) ?_
  refine lv_aload_n hx hb dL_law_532 rfl (lv_at hl 5 rfl) ?_
  refine lv_iload hx hb dL_law_533 (lv_at hl 0 rfl) ?_
  refine lv_iconst (v := 1) hx hb dL_law_535 (by decide) ?_
  refine lv_iadd hx hb dL_law_536 ?_
  replace hf := ckiE hf
  obtain ⟨h1, hf⟩ := hf
  refine va_sld hx hb hX hbl hbA hS h1 dL_law_537 ?_
  refine lv_aload_n hx hb dL_law_538 rfl (lv_at hl 2 rfl) ?_
  replace hf := obE hf
  obtain ⟨z2, hz2, hf⟩ := hf
  obtain ⟨r4, S3⟩ := z2
  replace hf := ltE (ltE hf r4 rfl) S3 rfl
  refine x_callSWc (As := [.ref (ad o1), .int (xs (Int32.toNatClampNeg (i + 1))), .ref (ad o3)]) (rest := []) (o := (some (.int r4))) (S1 := S3) hC hl.1 hW hS hGs hA (c_L_count l hfl g ad n K H.size F S0 o1 (xs (Int32.toNatClampNeg (i + 1))) o3 t1 t3 r4 S3 hz2) (vx_cwSW (hh := [(0, 9, 12, 19)]) 3 hts gL_law_L_count rfl rfl rfl (by decide +kernel) ⟨Nat.le_trans (Nat.le_of_ble_eq_true rfl) hRf, Nat.le_trans (Nat.le_of_ble_eq_true rfl) hRl⟩) rfl rfl (Nat.le_of_ble_eq_true rfl) dL_law_539 ⟨by omega, by omega⟩ (fun H locs hPz2 hW hS => ?_)
  refine W.widen (k := cells + 1) (n := slots + 6) (by omega) (by omega) ?_
  refine W.eq (g2 := F0 m 542 ls [.int r4]) rfl ?_
  refine lv_istore (lv' := [(6, .int r4), (5, .int i), (4, .ref (ad o4)), (3, .ref (ad o3)), (2, .ref (ad o2)), (1, .ref (ad o1)), (0, .ref b)]) hx hb dL_law_542 hl (by decide) rfl (fun ls hl => ?_)
  refine lv_aload_n hx hb dL_law_544 rfl (lv_at hl 4 rfl) ?_
  refine lv_aload_n hx hb dL_law_545 rfl (lv_at hl 6 rfl) ?_
  refine lv_iload hx hb dL_law_546 (lv_at hl 1 rfl) ?_
  refine lv_iconst (v := 1) hx hb dL_law_548 (by decide) ?_
  refine lv_iadd hx hb dL_law_549 ?_
  replace hf := ckiE hf
  obtain ⟨h6, hf⟩ := hf
  refine va_sld hx hb hX hbl hbA hS h6 dL_law_550 ?_
  replace hf := obE hf
  obtain ⟨z7, hz7, hf⟩ := hf
  obtain ⟨r9, S8⟩ := z7
  replace hf := ltE (ltE hf r9 rfl) S8 rfl
  refine x_callV (As := [.int (xs (Int32.toNatClampNeg (i + 1)))]) (rest := []) (o := (some (.int r9))) (S1 := S8) hC hl.1 hW hS hGs hA t2 rfl (show vwCl[10]? = some (RX11, TX11, 30) ∧ 10 < 11 from ⟨rfl, by decide⟩) (c_X11_count l g ad n K H.size F S3 o2 (xs (Int32.toNatClampNeg (i + 1))) t2 r9 S8 hz7) (cwV 1 hts gL_law_X11_count rfl rfl rfl (by decide +kernel) ⟨Nat.le_trans (Nat.le_of_ble_eq_true rfl) hRf, Nat.le_trans (Nat.le_of_ble_eq_true rfl) hRl⟩) rfl rfl (Nat.le_of_ble_eq_true rfl) dL_law_551 ⟨by omega, by omega⟩ (fun H locs hPz7 hW hS => ?_)
  refine W.eq (g2 := F0 m 554 ls [.int r9]) rfl ?_
  refine lv_istore (lv' := [(7, .int r9), (6, .int r4), (5, .int i), (4, .ref (ad o4)), (3, .ref (ad o3)), (2, .ref (ad o2)), (1, .ref (ad o1)), (0, .ref b)]) hx hb dL_law_554 hl (by decide) rfl (fun ls hl => ?_)
  refine lv_aload_n hx hb dL_law_556 rfl (lv_at hl 5 rfl) ?_
  replace hf := obE hf
  obtain ⟨z11, hz11, hf⟩ := hf
  obtain ⟨r13, S12⟩ := z11
  replace hf := ltE (ltE hf r13 rfl) S12 rfl
  refine x_callV (As := []) (rest := []) (o := (some (.int r13))) (S1 := S12) hC hl.1 hW hS hGs hA t2 rfl (show vwCl[10]? = some (RX11, TX11, 30) ∧ 10 < 11 from ⟨rfl, by decide⟩) (c_X11_thrown l g ad n K H.size F S8 o2 t2 r13 S12 hz11) (cwV 0 hts gL_law_X11_thrown rfl rfl rfl (by decide +kernel) ⟨Nat.le_trans (Nat.le_of_ble_eq_true rfl) hRf, Nat.le_trans (Nat.le_of_ble_eq_true rfl) hRl⟩) rfl rfl (Nat.le_of_ble_eq_true rfl) dL_law_557 ⟨by omega, by omega⟩ (fun H locs hPz11 hW hS => ?_)
  refine W.eq (g2 := F0 m 560 ls [.int r13]) rfl ?_
  refine lv_iload hx hb dL_law_560 (lv_at hl 1 rfl) ?_
  refine lv_icmp_eq (tgt := 567) hx hb dL_law_562 (by decide) (fun c15 => ?_) (fun c15 => ?_)
  · replace hf := ifT c15 hf
    refine lv_iload hx hb dL_law_567 (lv_at hl 1 rfl) ?_
    refine lv_if_ne (tgt := 584) hx hb dL_law_569 (by decide) (fun c16 => ?_) (fun c16 => ?_)
    · replace hf := ifT c16 hf
      refine lv_goto (tgt := 3297) hx hb dL_law_584 (by decide) ?_
      obtain ⟨e1, e2⟩ := so2 hf
      subst e1
      subst e2
      refine W.widen (k := cells + 20) (n := slots + 8189) (by omega) (by omega) ?_
      exact kk ad K _ _ ls Ag.rf hW hS (lv_sub hl [2, 3, 4, 5, 6, 7] rfl)
    · replace hf := ifF (fun q => q c16) hf
      refine lv_aload_n hx hb dL_law_572 rfl (lv_at hl 4 rfl) ?_
      refine lv_iconst (v := 0) hx hb dL_law_573 (by decide) ?_
      replace hf := ckiE hf
      obtain ⟨h17, hf⟩ := hf
      refine x_lald hC hW t3 rfl rfl h17 dL_law_574 ?_
      refine lv_iload hx hb dL_law_575 (lv_at hl 0 rfl) ?_
      refine lv_i2l (v := r9.toInt64) hx hb dL_law_577 rfl ?_
      refine W.lcmp hx hb dL_law_578 ?_
      refine lv_if_eq (tgt := 584) hx hb dL_law_579 (by decide) (fun c18 => ?_) (fun c18 => ?_)
      · replace hf := ifT c18 hf
        refine lv_goto (tgt := 3297) hx hb dL_law_584 (by decide) ?_
        obtain ⟨e1, e2⟩ := so2 hf
        subst e1
        subst e2
        refine W.widen (k := cells + 20) (n := slots + 8189) (by omega) (by omega) ?_
        exact kk ad K _ _ ls Ag.rf hW hS (lv_sub hl [2, 3, 4, 5, 6, 7] rfl)
      · replace hf := ifF c18 hf
        refine lv_iconst (v := 0) hx hb dL_law_582 (by decide) ?_
        cases hf
  · replace hf := ifF c15 hf
    refine lv_iconst (v := 0) hx hb dL_law_565 (by decide) ?_
    cases hf
set_option maxHeartbeats 4000000 in
set_option maxRecDepth 100000 in
theorem c_law7 {p : Program} {e : Env} {R : Room} {s : State} {m : MethodId} {below : List Frame} {meth : Method} {c : Code} {Q : State → Prop} {b L : Nat} {xs : Nat → Int32} {H : Heap} {locs : List Loc} {ls : Array Slot} {cells slots : Nat} (l : Launch) (hfl : l.stackTraces = false) (g : GP) (ad : Nat → Nat) (n : Nat) (K : Nat → Nat) (F : Nat) (S0 : St) (o1 o2 o3 o4 : Nat) (i : Int32) (hC : Cx g p s m #[.ref b] c cL_law RL lw_tbl 9) (hX : va_X b L xs s s.heap) (hbl : b < s.heap.size) (hGs : GF g (fun q : Nat => s.heap.size ≤ q) s s.heap) (hW : Wb g ad n K S0 (fun q : Nat => s.heap.size ≤ q) H) (hS : va_S (fun q : Nat => s.heap.size ≤ q) s.heap H locs) (t1 : o1 < n ∧ K o1 = 9) (t2 : o2 < n ∧ K o2 = 10) (t3 : o3 < n ∧ K o3 = 13) (t4 : o4 < n ∧ K o4 = 17) (hl : lv_has ls 9 [(5, .int i), (4, .ref (ad o4)), (3, .ref (ad o3)), (2, .ref (ad o2)), (1, .ref (ad o1)), (0, .ref b)]) (hRf : 13 ≤ R.frames) (hRl : 280 ≤ R.locals) (hRc : cells + 20 ≤ R.cells) (hRs : slots + 8189 ≤ R.slots) (S9 : St) (n9 : Nat) (hf : f_law7 F xs L S0 n o1 o2 o3 o4 i = some (S9, n9))
    (kk : ∀ (ad9 K9 : Nat → Nat) (H1 : Heap) (locs1 : List Loc) (ls1 : Array Slot), Ag ad K n ad9 K9 n9 → Wb g ad9 n9 K9 S9 (fun q : Nat => s.heap.size ≤ q) H1 → va_S (fun q : Nat => s.heap.size ≤ q) s.heap H1 locs1 → lv_has ls1 9 [(5, .int i), (4, .ref (ad9 o4)), (3, .ref (ad9 o3)), (2, .ref (ad9 o2)), (1, .ref (ad9 o1)), (0, .ref b)] → W p l e R s m #[.ref b] below meth c H1 locs1 (cells + 20) (slots + 8189) Q (F0 m 3297 ls1 [])) :
    W p l e R s m #[.ref b] below meth c H locs cells slots Q (F0 m 587 ls []) := by
  have hx := hC.1
  have hb := hC.2.1
  have hml := hC.2.2.1
  have hown : s.vm.findClass RL = some m.cls := hC.2.2.2.1
  have hts := hC.2.2.2.2.1
  have hK := hC.2.2.2.2.2
  have hA : ∀ q : Nat, s.heap.size ≤ q → (fun q : Nat => s.heap.size ≤ q) q := fun _ h => h
  have hbA : ¬ (fun q : Nat => s.heap.size ≤ q) b := Nat.not_le.mpr hbl
  unfold f_law7 at hf
  refine lv_aload_n hx hb dL_law_587 rfl (lv_at hl 4 rfl) ?_
  refine lv_aload_n hx hb dL_law_588 rfl (lv_at hl 5 rfl) ?_
  refine lv_iload hx hb dL_law_589 (lv_at hl 0 rfl) ?_
  refine lv_iconst (v := 1) hx hb dL_law_591 (by decide) ?_
  refine lv_iadd hx hb dL_law_592 ?_
  replace hf := ckiE hf
  obtain ⟨h1, hf⟩ := hf
  refine va_sld hx hb hX hbl hbA hS h1 dL_law_593 ?_
  refine lv_aload_n hx hb dL_law_594 rfl (lv_at hl 2 rfl) ?_
  replace hf := obE hf
  obtain ⟨z2, hz2, hf⟩ := hf
  obtain ⟨r4, S3⟩ := z2
  replace hf := ltE (ltE hf r4 rfl) S3 rfl
  refine x_callSWc (As := [.ref (ad o1), .int (xs (Int32.toNatClampNeg (i + 1))), .ref (ad o3)]) (rest := []) (o := (some (.int r4))) (S1 := S3) hC hl.1 hW hS hGs hA (c_L_members l hfl g ad n K H.size F S0 o1 (xs (Int32.toNatClampNeg (i + 1))) o3 t1 t3 r4 S3 hz2) (vx_cwSW (hh := [(0, 9, 12, 31)]) 3 hts gL_law_L_members rfl rfl rfl (by decide +kernel) ⟨Nat.le_trans (Nat.le_of_ble_eq_true rfl) hRf, Nat.le_trans (Nat.le_of_ble_eq_true rfl) hRl⟩) rfl rfl (Nat.le_of_ble_eq_true rfl) dL_law_595 ⟨by omega, by omega⟩ (fun H locs hPz2 hW hS => ?_)
  refine W.widen (k := cells + 1) (n := slots + 6) (by omega) (by omega) ?_
  refine W.eq (g2 := F0 m 598 ls [.int r4]) rfl ?_
  refine lv_istore (lv' := [(6, .int r4), (5, .int i), (4, .ref (ad o4)), (3, .ref (ad o3)), (2, .ref (ad o2)), (1, .ref (ad o1)), (0, .ref b)]) hx hb dL_law_598 hl (by decide) rfl (fun ls hl => ?_)
  refine lv_aload_n hx hb dL_law_600 rfl (lv_at hl 4 rfl) ?_
  refine lv_aload_n hx hb dL_law_601 rfl (lv_at hl 6 rfl) ?_
  refine lv_iload hx hb dL_law_602 (lv_at hl 1 rfl) ?_
  refine lv_iconst (v := 1) hx hb dL_law_604 (by decide) ?_
  refine lv_iadd hx hb dL_law_605 ?_
  replace hf := ckiE hf
  obtain ⟨h6, hf⟩ := hf
  refine va_sld hx hb hX hbl hbA hS h6 dL_law_606 ?_
  replace hf := obE hf
  obtain ⟨z7, hz7, hf⟩ := hf
  obtain ⟨r9, S8⟩ := z7
  replace hf := ltE (ltE hf r9 rfl) S8 rfl
  refine x_callV (As := [.int (xs (Int32.toNatClampNeg (i + 1)))]) (rest := []) (o := (some (.int r9))) (S1 := S8) hC hl.1 hW hS hGs hA t2 rfl (show vwCl[10]? = some (RX11, TX11, 30) ∧ 10 < 11 from ⟨rfl, by decide⟩) (c_X11_members l g ad n K H.size F S3 o2 (xs (Int32.toNatClampNeg (i + 1))) t2 r9 S8 hz7) (cwV 1 hts gL_law_X11_members rfl rfl rfl (by decide +kernel) ⟨Nat.le_trans (Nat.le_of_ble_eq_true rfl) hRf, Nat.le_trans (Nat.le_of_ble_eq_true rfl) hRl⟩) rfl rfl (Nat.le_of_ble_eq_true rfl) dL_law_607 ⟨by omega, by omega⟩ (fun H locs hPz7 hW hS => ?_)
  refine W.eq (g2 := F0 m 610 ls [.int r9]) rfl ?_
  refine lv_istore (lv' := [(7, .int r9), (6, .int r4), (5, .int i), (4, .ref (ad o4)), (3, .ref (ad o3)), (2, .ref (ad o2)), (1, .ref (ad o1)), (0, .ref b)]) hx hb dL_law_610 hl (by decide) rfl (fun ls hl => ?_)
  refine lv_aload_n hx hb dL_law_612 rfl (lv_at hl 5 rfl) ?_
  replace hf := obE hf
  obtain ⟨z11, hz11, hf⟩ := hf
  obtain ⟨r13, S12⟩ := z11
  replace hf := ltE (ltE hf r13 rfl) S12 rfl
  refine x_callV (As := []) (rest := []) (o := (some (.int r13))) (S1 := S12) hC hl.1 hW hS hGs hA t2 rfl (show vwCl[10]? = some (RX11, TX11, 30) ∧ 10 < 11 from ⟨rfl, by decide⟩) (c_X11_thrown l g ad n K H.size F S8 o2 t2 r13 S12 hz11) (cwV 0 hts gL_law_X11_thrown rfl rfl rfl (by decide +kernel) ⟨Nat.le_trans (Nat.le_of_ble_eq_true rfl) hRf, Nat.le_trans (Nat.le_of_ble_eq_true rfl) hRl⟩) rfl rfl (Nat.le_of_ble_eq_true rfl) dL_law_613 ⟨by omega, by omega⟩ (fun H locs hPz11 hW hS => ?_)
  refine W.eq (g2 := F0 m 616 ls [.int r13]) rfl ?_
  refine lv_iload hx hb dL_law_616 (lv_at hl 1 rfl) ?_
  refine lv_icmp_eq (tgt := 623) hx hb dL_law_618 (by decide) (fun c15 => ?_) (fun c15 => ?_)
  · replace hf := ifT c15 hf
    refine lv_iload hx hb dL_law_623 (lv_at hl 1 rfl) ?_
    refine lv_if_ne (tgt := 640) hx hb dL_law_625 (by decide) (fun c16 => ?_) (fun c16 => ?_)
    · replace hf := ifT c16 hf
      refine lv_goto (tgt := 3297) hx hb dL_law_640 (by decide) ?_
      obtain ⟨e1, e2⟩ := so2 hf
      subst e1
      subst e2
      refine W.widen (k := cells + 20) (n := slots + 8189) (by omega) (by omega) ?_
      exact kk ad K _ _ ls Ag.rf hW hS (lv_sub hl [2, 3, 4, 5, 6, 7] rfl)
    · replace hf := ifF (fun q => q c16) hf
      refine lv_aload_n hx hb dL_law_628 rfl (lv_at hl 4 rfl) ?_
      refine lv_iconst (v := 0) hx hb dL_law_629 (by decide) ?_
      replace hf := ckiE hf
      obtain ⟨h17, hf⟩ := hf
      refine x_lald hC hW t3 rfl rfl h17 dL_law_630 ?_
      refine lv_iload hx hb dL_law_631 (lv_at hl 0 rfl) ?_
      refine lv_i2l (v := r9.toInt64) hx hb dL_law_633 rfl ?_
      refine W.lcmp hx hb dL_law_634 ?_
      refine lv_if_eq (tgt := 640) hx hb dL_law_635 (by decide) (fun c18 => ?_) (fun c18 => ?_)
      · replace hf := ifT c18 hf
        refine lv_goto (tgt := 3297) hx hb dL_law_640 (by decide) ?_
        obtain ⟨e1, e2⟩ := so2 hf
        subst e1
        subst e2
        refine W.widen (k := cells + 20) (n := slots + 8189) (by omega) (by omega) ?_
        exact kk ad K _ _ ls Ag.rf hW hS (lv_sub hl [2, 3, 4, 5, 6, 7] rfl)
      · replace hf := ifF c18 hf
        refine lv_iconst (v := 0) hx hb dL_law_638 (by decide) ?_
        cases hf
  · replace hf := ifF c15 hf
    refine lv_iconst (v := 0) hx hb dL_law_621 (by decide) ?_
    cases hf
set_option maxHeartbeats 4000000 in
set_option maxRecDepth 100000 in
theorem c_law8 {p : Program} {e : Env} {R : Room} {s : State} {m : MethodId} {below : List Frame} {meth : Method} {c : Code} {Q : State → Prop} {b L : Nat} {xs : Nat → Int32} {H : Heap} {locs : List Loc} {ls : Array Slot} {cells slots : Nat} (l : Launch) (hfl : l.stackTraces = false) (g : GP) (ad : Nat → Nat) (n : Nat) (K : Nat → Nat) (F : Nat) (S0 : St) (o1 o2 o3 o4 : Nat) (i : Int32) (hC : Cx g p s m #[.ref b] c cL_law RL lw_tbl 9) (hX : va_X b L xs s s.heap) (hbl : b < s.heap.size) (hGs : GF g (fun q : Nat => s.heap.size ≤ q) s s.heap) (hW : Wb g ad n K S0 (fun q : Nat => s.heap.size ≤ q) H) (hS : va_S (fun q : Nat => s.heap.size ≤ q) s.heap H locs) (t1 : o1 < n ∧ K o1 = 9) (t2 : o2 < n ∧ K o2 = 10) (t3 : o3 < n ∧ K o3 = 13) (t4 : o4 < n ∧ K o4 = 17) (hl : lv_has ls 9 [(5, .int i), (4, .ref (ad o4)), (3, .ref (ad o3)), (2, .ref (ad o2)), (1, .ref (ad o1)), (0, .ref b)]) (hRf : 13 ≤ R.frames) (hRl : 280 ≤ R.locals) (hRc : cells + 20 ≤ R.cells) (hRs : slots + 8189 ≤ R.slots) (S9 : St) (n9 : Nat) (hf : f_law8 F xs L S0 n o1 o2 o3 o4 i = some (S9, n9))
    (kk : ∀ (ad9 K9 : Nat → Nat) (H1 : Heap) (locs1 : List Loc) (ls1 : Array Slot), Ag ad K n ad9 K9 n9 → Wb g ad9 n9 K9 S9 (fun q : Nat => s.heap.size ≤ q) H1 → va_S (fun q : Nat => s.heap.size ≤ q) s.heap H1 locs1 → lv_has ls1 9 [(5, .int i), (4, .ref (ad9 o4)), (3, .ref (ad9 o3)), (2, .ref (ad9 o2)), (1, .ref (ad9 o1)), (0, .ref b)] → W p l e R s m #[.ref b] below meth c H1 locs1 (cells + 20) (slots + 8189) Q (F0 m 3297 ls1 [])) :
    W p l e R s m #[.ref b] below meth c H locs cells slots Q (F0 m 643 ls []) := by
  have hx := hC.1
  have hb := hC.2.1
  have hml := hC.2.2.1
  have hown : s.vm.findClass RL = some m.cls := hC.2.2.2.1
  have hts := hC.2.2.2.2.1
  have hK := hC.2.2.2.2.2
  have hA : ∀ q : Nat, s.heap.size ≤ q → (fun q : Nat => s.heap.size ≤ q) q := fun _ h => h
  have hbA : ¬ (fun q : Nat => s.heap.size ≤ q) b := Nat.not_le.mpr hbl
  unfold f_law8 at hf
  refine lv_aload_n hx hb dL_law_643 rfl (lv_at hl 4 rfl) ?_
  refine lv_aload_n hx hb dL_law_644 rfl (lv_at hl 5 rfl) ?_
  refine lv_iload hx hb dL_law_645 (lv_at hl 0 rfl) ?_
  refine lv_iconst (v := 1) hx hb dL_law_647 (by decide) ?_
  refine lv_iadd hx hb dL_law_648 ?_
  replace hf := ckiE hf
  obtain ⟨h1, hf⟩ := hf
  refine va_sld hx hb hX hbl hbA hS h1 dL_law_649 ?_
  refine lv_aload_n hx hb dL_law_650 rfl (lv_at hl 5 rfl) ?_
  refine lv_iload hx hb dL_law_651 (lv_at hl 0 rfl) ?_
  refine lv_iconst (v := 2) hx hb dL_law_653 (by decide) ?_
  refine lv_iadd hx hb dL_law_654 ?_
  replace hf := ckiE hf
  obtain ⟨h2, hf⟩ := hf
  refine va_sld hx hb hX hbl hbA hS h2 dL_law_655 ?_
  refine lv_aload_n hx hb dL_law_656 rfl (lv_at hl 2 rfl) ?_
  replace hf := obE hf
  obtain ⟨z3, hz3, hf⟩ := hf
  obtain ⟨r5, S4⟩ := z3
  replace hf := ltE (ltE hf r5 rfl) S4 rfl
  refine x_callSWc (As := [.ref (ad o1), .int (xs (Int32.toNatClampNeg (i + 1))), .int (xs (Int32.toNatClampNeg (i + 2))), .ref (ad o3)]) (rest := []) (o := (some (.int r5))) (S1 := S4) hC hl.1 hW hS hGs hA (c_L_retention l hfl g ad n K H.size F S0 o1 (xs (Int32.toNatClampNeg (i + 1))) (xs (Int32.toNatClampNeg (i + 2))) o3 t1 t3 r5 S4 hz3) (vx_cwSW (hh := [(0, 10, 13, 31), (0, 10, 17, 19)]) 4 hts gL_law_L_retention rfl rfl rfl (by decide +kernel) ⟨Nat.le_trans (Nat.le_of_ble_eq_true rfl) hRf, Nat.le_trans (Nat.le_of_ble_eq_true rfl) hRl⟩) rfl rfl (Nat.le_of_ble_eq_true rfl) dL_law_657 ⟨by omega, by omega⟩ (fun H locs hPz3 hW hS => ?_)
  refine W.widen (k := cells + 2) (n := slots + 12) (by omega) (by omega) ?_
  refine W.eq (g2 := F0 m 660 ls [.int r5]) rfl ?_
  refine lv_istore (lv' := [(6, .int r5), (5, .int i), (4, .ref (ad o4)), (3, .ref (ad o3)), (2, .ref (ad o2)), (1, .ref (ad o1)), (0, .ref b)]) hx hb dL_law_660 hl (by decide) rfl (fun ls hl => ?_)
  refine lv_aload_n hx hb dL_law_662 rfl (lv_at hl 4 rfl) ?_
  refine lv_aload_n hx hb dL_law_663 rfl (lv_at hl 6 rfl) ?_
  refine lv_iload hx hb dL_law_664 (lv_at hl 1 rfl) ?_
  refine lv_iconst (v := 1) hx hb dL_law_666 (by decide) ?_
  refine lv_iadd hx hb dL_law_667 ?_
  replace hf := ckiE hf
  obtain ⟨h7, hf⟩ := hf
  refine va_sld hx hb hX hbl hbA hS h7 dL_law_668 ?_
  refine lv_aload_n hx hb dL_law_669 rfl (lv_at hl 6 rfl) ?_
  refine lv_iload hx hb dL_law_670 (lv_at hl 1 rfl) ?_
  refine lv_iconst (v := 2) hx hb dL_law_672 (by decide) ?_
  refine lv_iadd hx hb dL_law_673 ?_
  replace hf := ckiE hf
  obtain ⟨h8, hf⟩ := hf
  refine va_sld hx hb hX hbl hbA hS h8 dL_law_674 ?_
  replace hf := obE hf
  obtain ⟨z9, hz9, hf⟩ := hf
  obtain ⟨r11, S10⟩ := z9
  replace hf := ltE (ltE hf r11 rfl) S10 rfl
  refine x_callV (As := [.int (xs (Int32.toNatClampNeg (i + 1))), .int (xs (Int32.toNatClampNeg (i + 2)))]) (rest := []) (o := (some (.int r11))) (S1 := S10) hC hl.1 hW hS hGs hA t2 rfl (show vwCl[10]? = some (RX11, TX11, 30) ∧ 10 < 11 from ⟨rfl, by decide⟩) (c_X11_retention l g ad n K H.size F S4 o2 (xs (Int32.toNatClampNeg (i + 1))) (xs (Int32.toNatClampNeg (i + 2))) t2 r11 S10 hz9) (cwV 2 hts gL_law_X11_retention rfl rfl rfl (by decide +kernel) ⟨Nat.le_trans (Nat.le_of_ble_eq_true rfl) hRf, Nat.le_trans (Nat.le_of_ble_eq_true rfl) hRl⟩) rfl rfl (Nat.le_of_ble_eq_true rfl) dL_law_675 ⟨by omega, by omega⟩ (fun H locs hPz9 hW hS => ?_)
  refine W.eq (g2 := F0 m 678 ls [.int r11]) rfl ?_
  refine lv_istore (lv' := [(7, .int r11), (6, .int r5), (5, .int i), (4, .ref (ad o4)), (3, .ref (ad o3)), (2, .ref (ad o2)), (1, .ref (ad o1)), (0, .ref b)]) hx hb dL_law_678 hl (by decide) rfl (fun ls hl => ?_)
  refine lv_aload_n hx hb dL_law_680 rfl (lv_at hl 5 rfl) ?_
  replace hf := obE hf
  obtain ⟨z13, hz13, hf⟩ := hf
  obtain ⟨r15, S14⟩ := z13
  replace hf := ltE (ltE hf r15 rfl) S14 rfl
  refine x_callV (As := []) (rest := []) (o := (some (.int r15))) (S1 := S14) hC hl.1 hW hS hGs hA t2 rfl (show vwCl[10]? = some (RX11, TX11, 30) ∧ 10 < 11 from ⟨rfl, by decide⟩) (c_X11_thrown l g ad n K H.size F S10 o2 t2 r15 S14 hz13) (cwV 0 hts gL_law_X11_thrown rfl rfl rfl (by decide +kernel) ⟨Nat.le_trans (Nat.le_of_ble_eq_true rfl) hRf, Nat.le_trans (Nat.le_of_ble_eq_true rfl) hRl⟩) rfl rfl (Nat.le_of_ble_eq_true rfl) dL_law_681 ⟨by omega, by omega⟩ (fun H locs hPz13 hW hS => ?_)
  refine W.eq (g2 := F0 m 684 ls [.int r15]) rfl ?_
  refine lv_iload hx hb dL_law_684 (lv_at hl 1 rfl) ?_
  refine lv_icmp_eq (tgt := 691) hx hb dL_law_686 (by decide) (fun c17 => ?_) (fun c17 => ?_)
  · replace hf := ifT c17 hf
    refine lv_iload hx hb dL_law_691 (lv_at hl 1 rfl) ?_
    refine lv_if_ne (tgt := 708) hx hb dL_law_693 (by decide) (fun c18 => ?_) (fun c18 => ?_)
    · replace hf := ifT c18 hf
      refine lv_goto (tgt := 3297) hx hb dL_law_708 (by decide) ?_
      obtain ⟨e1, e2⟩ := so2 hf
      subst e1
      subst e2
      refine W.widen (k := cells + 20) (n := slots + 8189) (by omega) (by omega) ?_
      exact kk ad K _ _ ls Ag.rf hW hS (lv_sub hl [2, 3, 4, 5, 6, 7] rfl)
    · replace hf := ifF (fun q => q c18) hf
      refine lv_aload_n hx hb dL_law_696 rfl (lv_at hl 4 rfl) ?_
      refine lv_iconst (v := 0) hx hb dL_law_697 (by decide) ?_
      replace hf := ckiE hf
      obtain ⟨h19, hf⟩ := hf
      refine x_lald hC hW t3 rfl rfl h19 dL_law_698 ?_
      refine lv_iload hx hb dL_law_699 (lv_at hl 0 rfl) ?_
      refine lv_i2l (v := r11.toInt64) hx hb dL_law_701 rfl ?_
      refine W.lcmp hx hb dL_law_702 ?_
      refine lv_if_eq (tgt := 708) hx hb dL_law_703 (by decide) (fun c20 => ?_) (fun c20 => ?_)
      · replace hf := ifT c20 hf
        refine lv_goto (tgt := 3297) hx hb dL_law_708 (by decide) ?_
        obtain ⟨e1, e2⟩ := so2 hf
        subst e1
        subst e2
        refine W.widen (k := cells + 20) (n := slots + 8189) (by omega) (by omega) ?_
        exact kk ad K _ _ ls Ag.rf hW hS (lv_sub hl [2, 3, 4, 5, 6, 7] rfl)
      · replace hf := ifF c20 hf
        refine lv_iconst (v := 0) hx hb dL_law_706 (by decide) ?_
        cases hf
  · replace hf := ifF c17 hf
    refine lv_iconst (v := 0) hx hb dL_law_689 (by decide) ?_
    cases hf
