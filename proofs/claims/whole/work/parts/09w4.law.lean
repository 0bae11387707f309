set_option maxHeartbeats 4000000 in
set_option maxRecDepth 100000 in
theorem c_law39 {p : Program} {e : Env} {R : Room} {s : State} {m : MethodId} {below : List Frame} {meth : Method} {c : Code} {Q : State → Prop} {b L : Nat} {xs : Nat → Int32} {H : Heap} {locs : List Loc} {ls : Array Slot} {cells slots : Nat} (l : Launch) (hfl : l.stackTraces = false) (g : GP) (ad : Nat → Nat) (n : Nat) (K : Nat → Nat) (F : Nat) (S0 : St) (o1 o2 o3 o4 : Nat) (i : Int32) (hC : Cx g p s m #[.ref b] c cL_law RL lw_tbl 9) (hX : va_X b L xs s s.heap) (hbl : b < s.heap.size) (hGs : GF g (fun q : Nat => s.heap.size ≤ q) s s.heap) (hW : Wb g ad n K S0 (fun q : Nat => s.heap.size ≤ q) H) (hS : va_S (fun q : Nat => s.heap.size ≤ q) s.heap H locs) (t1 : o1 < n ∧ K o1 = 9) (t2 : o2 < n ∧ K o2 = 10) (t3 : o3 < n ∧ K o3 = 13) (t4 : o4 < n ∧ K o4 = 17) (hl : lv_has ls 9 [(5, .int i), (4, .ref (ad o4)), (3, .ref (ad o3)), (2, .ref (ad o2)), (1, .ref (ad o1)), (0, .ref b)]) (hRf : 13 ≤ R.frames) (hRl : 280 ≤ R.locals) (hRc : cells + 20 ≤ R.cells) (hRs : slots + 8189 ≤ R.slots) (S9 : St) (n9 : Nat) (hf : f_law39 F xs L S0 n o1 o2 o3 o4 i = some (S9, n9))
    (kk : ∀ (ad9 K9 : Nat → Nat) (H1 : Heap) (locs1 : List Loc) (ls1 : Array Slot), Ag ad K n ad9 K9 n9 → Wb g ad9 n9 K9 S9 (fun q : Nat => s.heap.size ≤ q) H1 → va_S (fun q : Nat => s.heap.size ≤ q) s.heap H1 locs1 → lv_has ls1 9 [(5, .int i), (4, .ref (ad9 o4)), (3, .ref (ad9 o3)), (2, .ref (ad9 o2)), (1, .ref (ad9 o1)), (0, .ref b)] → W p l e R s m #[.ref b] below meth c H1 locs1 (cells + 20) (slots + 8189) Q (F0 m 3297 ls1 [])) :
    W p l e R s m #[.ref b] below meth c H locs cells slots Q (F0 m 2242 ls []) := by
  have hx := hC.1
  have hb := hC.2.1
  have hml := hC.2.2.1
  have hown : s.vm.findClass RL = some m.cls := hC.2.2.2.1
  have hts := hC.2.2.2.2.1
  have hK := hC.2.2.2.2.2
  have hA : ∀ q : Nat, s.heap.size ≤ q → (fun q : Nat => s.heap.size ≤ q) q := fun _ h => h
  have hbA : ¬ (fun q : Nat => s.heap.size ≤ q) b := Nat.not_le.mpr hbl
  unfold f_law39 at hf
  refine lv_aload_n hx hb dL_law_2242 rfl (lv_at hl 4 rfl) ?_
  refine lv_aload_n hx hb dL_law_2243 rfl (lv_at hl 5 rfl) ?_
  refine lv_iload hx hb dL_law_2244 (lv_at hl 0 rfl) ?_
  refine lv_iconst (v := 1) hx hb dL_law_2246 (by decide) ?_
  refine lv_iadd hx hb dL_law_2247 ?_
  replace hf := ckiE hf
  obtain ⟨h1, hf⟩ := hf
  refine va_sld hx hb hX hbl hbA hS h1 dL_law_2248 ?_
  refine lv_aload_n hx hb dL_law_2249 rfl (lv_at hl 5 rfl) ?_
  refine lv_iload hx hb dL_law_2250 (lv_at hl 0 rfl) ?_
  refine lv_iconst (v := 2) hx hb dL_law_2252 (by decide) ?_
  refine lv_iadd hx hb dL_law_2253 ?_
  replace hf := ckiE hf
  obtain ⟨h2, hf⟩ := hf
  refine va_sld hx hb hX hbl hbA hS h2 dL_law_2254 ?_
  refine lv_aload_n hx hb dL_law_2255 rfl (lv_at hl 5 rfl) ?_
  refine lv_iload hx hb dL_law_2256 (lv_at hl 0 rfl) ?_
  refine lv_iconst (v := 3) hx hb dL_law_2258 (by decide) ?_
  refine lv_iadd hx hb dL_law_2259 ?_
  replace hf := ckiE hf
  obtain ⟨h3, hf⟩ := hf
  refine va_sld hx hb hX hbl hbA hS h3 dL_law_2260 ?_
  refine lv_aload_n hx hb dL_law_2261 rfl (lv_at hl 2 rfl) ?_
  replace hf := obE hf
  obtain ⟨z4, hz4, hf⟩ := hf
  obtain ⟨r6, S5⟩ := z4
  replace hf := ltE (ltE hf r6 rfl) S5 rfl
  refine x_callSWc (As := [.ref (ad o1), .int (xs (Int32.toNatClampNeg (i + 1))), .int (xs (Int32.toNatClampNeg (i + 2))), .int (xs (Int32.toNatClampNeg (i + 3))), .ref (ad o3)]) (rest := []) (o := (some (.int r6))) (S1 := S5) hC hl.1 hW hS hGs hA (c_L_file l hfl g ad n K H.size F S0 o1 (xs (Int32.toNatClampNeg (i + 1))) (xs (Int32.toNatClampNeg (i + 2))) (xs (Int32.toNatClampNeg (i + 3))) o3 t1 t3 r6 S5 hz4) (vx_cwSW (hh := [(0, 12, 15, 31), (0, 12, 19, 13)]) 5 hts gL_law_L_file rfl rfl rfl (by decide +kernel) ⟨Nat.le_trans (Nat.le_of_ble_eq_true rfl) hRf, Nat.le_trans (Nat.le_of_ble_eq_true rfl) hRl⟩) rfl rfl (Nat.le_of_ble_eq_true rfl) dL_law_2262 ⟨by omega, by omega⟩ (fun H locs hPz4 hW hS => ?_)
  refine W.widen (k := cells + 3) (n := slots + 18) (by omega) (by omega) ?_
  refine W.eq (g2 := F0 m 2265 ls [.int r6]) rfl ?_
  refine lv_istore (lv' := [(6, .int r6), (5, .int i), (4, .ref (ad o4)), (3, .ref (ad o3)), (2, .ref (ad o2)), (1, .ref (ad o1)), (0, .ref b)]) hx hb dL_law_2265 hl (by decide) rfl (fun ls hl => ?_)
  refine lv_aload_n hx hb dL_law_2267 rfl (lv_at hl 4 rfl) ?_
  refine lv_aload_n hx hb dL_law_2268 rfl (lv_at hl 6 rfl) ?_
  refine lv_iload hx hb dL_law_2269 (lv_at hl 1 rfl) ?_
  refine lv_iconst (v := 1) hx hb dL_law_2271 (by decide) ?_
  refine lv_iadd hx hb dL_law_2272 ?_
  replace hf := ckiE hf
  obtain ⟨h8, hf⟩ := hf
  refine va_sld hx hb hX hbl hbA hS h8 dL_law_2273 ?_
  refine lv_aload_n hx hb dL_law_2274 rfl (lv_at hl 6 rfl) ?_
  refine lv_iload hx hb dL_law_2275 (lv_at hl 1 rfl) ?_
  refine lv_iconst (v := 2) hx hb dL_law_2277 (by decide) ?_
  refine lv_iadd hx hb dL_law_2278 ?_
  replace hf := ckiE hf
  obtain ⟨h9, hf⟩ := hf
  refine va_sld hx hb hX hbl hbA hS h9 dL_law_2279 ?_
  refine lv_aload_n hx hb dL_law_2280 rfl (lv_at hl 6 rfl) ?_
  refine lv_iload hx hb dL_law_2281 (lv_at hl 1 rfl) ?_
  refine lv_iconst (v := 3) hx hb dL_law_2283 (by decide) ?_
  refine lv_iadd hx hb dL_law_2284 ?_
  replace hf := ckiE hf
  obtain ⟨h10, hf⟩ := hf
  refine va_sld hx hb hX hbl hbA hS h10 dL_law_2285 ?_
  replace hf := obE hf
  obtain ⟨z11, hz11, hf⟩ := hf
  obtain ⟨r13, S12⟩ := z11
  replace hf := ltE (ltE hf r13 rfl) S12 rfl
  refine x_callV (As := [.int (xs (Int32.toNatClampNeg (i + 1))), .int (xs (Int32.toNatClampNeg (i + 2))), .int (xs (Int32.toNatClampNeg (i + 3)))]) (rest := []) (o := (some (.int r13))) (S1 := S12) hC hl.1 hW hS hGs hA t2 rfl (show vwCl[10]? = some (RX11, TX11, 30) ∧ 10 < 11 from ⟨rfl, by decide⟩) (c_X11_file l g ad n K H.size F S5 o2 (xs (Int32.toNatClampNeg (i + 1))) (xs (Int32.toNatClampNeg (i + 2))) (xs (Int32.toNatClampNeg (i + 3))) t2 r13 S12 hz11) (cwV 3 hts gL_law_X11_file rfl rfl rfl (by decide +kernel) ⟨Nat.le_trans (Nat.le_of_ble_eq_true rfl) hRf, Nat.le_trans (Nat.le_of_ble_eq_true rfl) hRl⟩) rfl rfl (Nat.le_of_ble_eq_true rfl) dL_law_2286 ⟨by omega, by omega⟩ (fun H locs hPz11 hW hS => ?_)
  refine W.eq (g2 := F0 m 2289 ls [.int r13]) rfl ?_
  refine lv_istore (lv' := [(7, .int r13), (6, .int r6), (5, .int i), (4, .ref (ad o4)), (3, .ref (ad o3)), (2, .ref (ad o2)), (1, .ref (ad o1)), (0, .ref b)]) hx hb dL_law_2289 hl (by decide) rfl (fun ls hl => ?_)
  refine lv_aload_n hx hb dL_law_2291 rfl (lv_at hl 5 rfl) ?_
  replace hf := obE hf
  obtain ⟨z15, hz15, hf⟩ := hf
  obtain ⟨r17, S16⟩ := z15
  replace hf := ltE (ltE hf r17 rfl) S16 rfl
  refine x_callV (As := []) (rest := []) (o := (some (.int r17))) (S1 := S16) hC hl.1 hW hS hGs hA t2 rfl (show vwCl[10]? = some (RX11, TX11, 30) ∧ 10 < 11 from ⟨rfl, by decide⟩) (c_X11_thrown l g ad n K H.size F S12 o2 t2 r17 S16 hz15) (cwV 0 hts gL_law_X11_thrown rfl rfl rfl (by decide +kernel) ⟨Nat.le_trans (Nat.le_of_ble_eq_true rfl) hRf, Nat.le_trans (Nat.le_of_ble_eq_true rfl) hRl⟩) rfl rfl (Nat.le_of_ble_eq_true rfl) dL_law_2292 ⟨by omega, by omega⟩ (fun H locs hPz15 hW hS => ?_)
  refine W.eq (g2 := F0 m 2295 ls [.int r17]) rfl ?_
  refine lv_iload hx hb dL_law_2295 (lv_at hl 1 rfl) ?_
  refine lv_icmp_eq (tgt := 2302) hx hb dL_law_2297 (by decide) (fun c19 => ?_) (fun c19 => ?_)
  · replace hf := ifT c19 hf
    refine lv_iload hx hb dL_law_2302 (lv_at hl 1 rfl) ?_
    refine lv_if_ne (tgt := 2319) hx hb dL_law_2304 (by decide) (fun c20 => ?_) (fun c20 => ?_)
    · replace hf := ifT c20 hf
      refine lv_goto (tgt := 3297) hx hb dL_law_2319 (by decide) ?_
      obtain ⟨e1, e2⟩ := so2 hf
      subst e1
      subst e2
      refine W.widen (k := cells + 20) (n := slots + 8189) (by omega) (by omega) ?_
      exact kk ad K _ _ ls Ag.rf hW hS (lv_sub hl [2, 3, 4, 5, 6, 7] rfl)
    · replace hf := ifF (fun q => q c20) hf
      refine lv_aload_n hx hb dL_law_2307 rfl (lv_at hl 4 rfl) ?_
      refine lv_iconst (v := 0) hx hb dL_law_2308 (by decide) ?_
      replace hf := ckiE hf
      obtain ⟨h21, hf⟩ := hf
      refine x_lald hC hW t3 rfl rfl h21 dL_law_2309 ?_
      refine lv_iload hx hb dL_law_2310 (lv_at hl 0 rfl) ?_
      refine lv_i2l (v := r13.toInt64) hx hb dL_law_2312 rfl ?_
      refine W.lcmp hx hb dL_law_2313 ?_
      refine lv_if_eq (tgt := 2319) hx hb dL_law_2314 (by decide) (fun c22 => ?_) (fun c22 => ?_)
      · replace hf := ifT c22 hf
        refine lv_goto (tgt := 3297) hx hb dL_law_2319 (by decide) ?_
        obtain ⟨e1, e2⟩ := so2 hf
        subst e1
        subst e2
        refine W.widen (k := cells + 20) (n := slots + 8189) (by omega) (by omega) ?_
        exact kk ad K _ _ ls Ag.rf hW hS (lv_sub hl [2, 3, 4, 5, 6, 7] rfl)
      · replace hf := ifF c22 hf
        refine lv_iconst (v := 0) hx hb dL_law_2317 (by decide) ?_
        cases hf
  · replace hf := ifF c19 hf
    refine lv_iconst (v := 0) hx hb dL_law_2300 (by decide) ?_
    cases hf
set_option maxHeartbeats 4000000 in
set_option maxRecDepth 100000 in
theorem c_law40 {p : Program} {e : Env} {R : Room} {s : State} {m : MethodId} {below : List Frame} {meth : Method} {c : Code} {Q : State → Prop} {b L : Nat} {xs : Nat → Int32} {H : Heap} {locs : List Loc} {ls : Array Slot} {cells slots : Nat} (l : Launch) (hfl : l.stackTraces = false) (g : GP) (ad : Nat → Nat) (n : Nat) (K : Nat → Nat) (F : Nat) (S0 : St) (o1 o2 o3 o4 : Nat) (i : Int32) (hC : Cx g p s m #[.ref b] c cL_law RL lw_tbl 9) (hX : va_X b L xs s s.heap) (hbl : b < s.heap.size) (hGs : GF g (fun q : Nat => s.heap.size ≤ q) s s.heap) (hW : Wb g ad n K S0 (fun q : Nat => s.heap.size ≤ q) H) (hS : va_S (fun q : Nat => s.heap.size ≤ q) s.heap H locs) (t1 : o1 < n ∧ K o1 = 9) (t2 : o2 < n ∧ K o2 = 10) (t3 : o3 < n ∧ K o3 = 13) (t4 : o4 < n ∧ K o4 = 17) (hl : lv_has ls 9 [(5, .int i), (4, .ref (ad o4)), (3, .ref (ad o3)), (2, .ref (ad o2)), (1, .ref (ad o1)), (0, .ref b)]) (hRf : 13 ≤ R.frames) (hRl : 280 ≤ R.locals) (hRc : cells + 20 ≤ R.cells) (hRs : slots + 8189 ≤ R.slots) (S9 : St) (n9 : Nat) (hf : f_law40 F xs L S0 n o1 o2 o3 o4 i = some (S9, n9))
    (kk : ∀ (ad9 K9 : Nat → Nat) (H1 : Heap) (locs1 : List Loc) (ls1 : Array Slot), Ag ad K n ad9 K9 n9 → Wb g ad9 n9 K9 S9 (fun q : Nat => s.heap.size ≤ q) H1 → va_S (fun q : Nat => s.heap.size ≤ q) s.heap H1 locs1 → lv_has ls1 9 [(5, .int i), (4, .ref (ad9 o4)), (3, .ref (ad9 o3)), (2, .ref (ad9 o2)), (1, .ref (ad9 o1)), (0, .ref b)] → W p l e R s m #[.ref b] below meth c H1 locs1 (cells + 20) (slots + 8189) Q (F0 m 3297 ls1 [])) :
    W p l e R s m #[.ref b] below meth c H locs cells slots Q (F0 m 2322 ls []) := by
  have hx := hC.1
  have hb := hC.2.1
  have hml := hC.2.2.1
  have hown : s.vm.findClass RL = some m.cls := hC.2.2.2.1
  have hts := hC.2.2.2.2.1
  have hK := hC.2.2.2.2.2
  have hA : ∀ q : Nat, s.heap.size ≤ q → (fun q : Nat => s.heap.size ≤ q) q := fun _ h => h
  have hbA : ¬ (fun q : Nat => s.heap.size ≤ q) b := Nat.not_le.mpr hbl
  unfold f_law40 at hf
  refine lv_aload_n hx hb dL_law_2322 rfl (lv_at hl 4 rfl) ?_
  refine lv_aload_n hx hb dL_law_2323 rfl (lv_at hl 5 rfl) ?_
  refine lv_iload hx hb dL_law_2324 (lv_at hl 0 rfl) ?_
  refine lv_iconst (v := 1) hx hb dL_law_2326 (by decide) ?_
  refine lv_iadd hx hb dL_law_2327 ?_
  replace hf := ckiE hf
  obtain ⟨h1, hf⟩ := hf
  refine va_sld hx hb hX hbl hbA hS h1 dL_law_2328 ?_
  refine lv_aload_n hx hb dL_law_2329 rfl (lv_at hl 5 rfl) ?_
  refine lv_iload hx hb dL_law_2330 (lv_at hl 0 rfl) ?_
  refine lv_iconst (v := 2) hx hb dL_law_2332 (by decide) ?_
  refine lv_iadd hx hb dL_law_2333 ?_
  replace hf := ckiE hf
  obtain ⟨h2, hf⟩ := hf
  refine va_sld hx hb hX hbl hbA hS h2 dL_law_2334 ?_
  refine lv_aload_n hx hb dL_law_2335 rfl (lv_at hl 2 rfl) ?_
  replace hf := obE hf
  obtain ⟨z3, hz3, hf⟩ := hf
  obtain ⟨r5, S4⟩ := z3
  replace hf := ltE (ltE hf r5 rfl) S4 rfl
  refine x_callSWc (As := [.ref (ad o1), .int (xs (Int32.toNatClampNeg (i + 1))), .int (xs (Int32.toNatClampNeg (i + 2))), .ref (ad o3)]) (rest := []) (o := (some (.int r5))) (S1 := S4) hC hl.1 hW hS hGs hA (c_L_delete l hfl g ad n K H.size F S0 o1 (xs (Int32.toNatClampNeg (i + 1))) (xs (Int32.toNatClampNeg (i + 2))) o3 t1 t3 r5 S4 hz3) (vx_cwSW (hh := [(0, 10, 13, 31), (0, 10, 17, 13)]) 4 hts gL_law_L_delete rfl rfl rfl (by decide +kernel) ⟨Nat.le_trans (Nat.le_of_ble_eq_true rfl) hRf, Nat.le_trans (Nat.le_of_ble_eq_true rfl) hRl⟩) rfl rfl (Nat.le_of_ble_eq_true rfl) dL_law_2336 ⟨by omega, by omega⟩ (fun H locs hPz3 hW hS => ?_)
  refine W.widen (k := cells + 2) (n := slots + 12) (by omega) (by omega) ?_
  refine W.eq (g2 := F0 m 2339 ls [.int r5]) rfl ?_
  refine lv_istore (lv' := [(6, .int r5), (5, .int i), (4, .ref (ad o4)), (3, .ref (ad o3)), (2, .ref (ad o2)), (1, .ref (ad o1)), (0, .ref b)]) hx hb dL_law_2339 hl (by decide) rfl (fun ls hl => ?_)
  refine lv_aload_n hx hb dL_law_2341 rfl (lv_at hl 4 rfl) ?_
  refine lv_aload_n hx hb dL_law_2342 rfl (lv_at hl 6 rfl) ?_
  refine lv_iload hx hb dL_law_2343 (lv_at hl 1 rfl) ?_
  refine lv_iconst (v := 1) hx hb dL_law_2345 (by decide) ?_
  refine lv_iadd hx hb dL_law_2346 ?_
  replace hf := ckiE hf
  obtain ⟨h7, hf⟩ := hf
  refine va_sld hx hb hX hbl hbA hS h7 dL_law_2347 ?_
  refine lv_aload_n hx hb dL_law_2348 rfl (lv_at hl 6 rfl) ?_
  refine lv_iload hx hb dL_law_2349 (lv_at hl 1 rfl) ?_
  refine lv_iconst (v := 2) hx hb dL_law_2351 (by decide) ?_
  refine lv_iadd hx hb dL_law_2352 ?_
  replace hf := ckiE hf
  obtain ⟨h8, hf⟩ := hf
  refine va_sld hx hb hX hbl hbA hS h8 dL_law_2353 ?_
  replace hf := obE hf
  obtain ⟨z9, hz9, hf⟩ := hf
  obtain ⟨r11, S10⟩ := z9
  replace hf := ltE (ltE hf r11 rfl) S10 rfl
  refine x_callV (As := [.int (xs (Int32.toNatClampNeg (i + 1))), .int (xs (Int32.toNatClampNeg (i + 2)))]) (rest := []) (o := (some (.int r11))) (S1 := S10) hC hl.1 hW hS hGs hA t2 rfl (show vwCl[10]? = some (RX11, TX11, 30) ∧ 10 < 11 from ⟨rfl, by decide⟩) (c_X11_delete l g ad n K H.size F S4 o2 (xs (Int32.toNatClampNeg (i + 1))) (xs (Int32.toNatClampNeg (i + 2))) t2 r11 S10 hz9) (cwV 2 hts gL_law_X11_delete rfl rfl rfl (by decide +kernel) ⟨Nat.le_trans (Nat.le_of_ble_eq_true rfl) hRf, Nat.le_trans (Nat.le_of_ble_eq_true rfl) hRl⟩) rfl rfl (Nat.le_of_ble_eq_true rfl) dL_law_2354 ⟨by omega, by omega⟩ (fun H locs hPz9 hW hS => ?_)
  refine W.eq (g2 := F0 m 2357 ls [.int r11]) rfl ?_
  refine lv_istore (lv' := [(7, .int r11), (6, .int r5), (5, .int i), (4, .ref (ad o4)), (3, .ref (ad o3)), (2, .ref (ad o2)), (1, .ref (ad o1)), (0, .ref b)]) hx hb dL_law_2357 hl (by decide) rfl (fun ls hl => ?_)
  refine lv_aload_n hx hb dL_law_2359 rfl (lv_at hl 5 rfl) ?_
  replace hf := obE hf
  obtain ⟨z13, hz13, hf⟩ := hf
  obtain ⟨r15, S14⟩ := z13
  replace hf := ltE (ltE hf r15 rfl) S14 rfl
  refine x_callV (As := []) (rest := []) (o := (some (.int r15))) (S1 := S14) hC hl.1 hW hS hGs hA t2 rfl (show vwCl[10]? = some (RX11, TX11, 30) ∧ 10 < 11 from ⟨rfl, by decide⟩) (c_X11_thrown l g ad n K H.size F S10 o2 t2 r15 S14 hz13) (cwV 0 hts gL_law_X11_thrown rfl rfl rfl (by decide +kernel) ⟨Nat.le_trans (Nat.le_of_ble_eq_true rfl) hRf, Nat.le_trans (Nat.le_of_ble_eq_true rfl) hRl⟩) rfl rfl (Nat.le_of_ble_eq_true rfl) dL_law_2360 ⟨by omega, by omega⟩ (fun H locs hPz13 hW hS => ?_)
  refine W.eq (g2 := F0 m 2363 ls [.int r15]) rfl ?_
  refine lv_iload hx hb dL_law_2363 (lv_at hl 1 rfl) ?_
  refine lv_icmp_eq (tgt := 2370) hx hb dL_law_2365 (by decide) (fun c17 => ?_) (fun c17 => ?_)
  · replace hf := ifT c17 hf
    refine lv_iload hx hb dL_law_2370 (lv_at hl 1 rfl) ?_
    refine lv_if_ne (tgt := 2387) hx hb dL_law_2372 (by decide) (fun c18 => ?_) (fun c18 => ?_)
    · replace hf := ifT c18 hf
      refine lv_goto (tgt := 3297) hx hb dL_law_2387 (by decide) ?_
      obtain ⟨e1, e2⟩ := so2 hf
      subst e1
      subst e2
      refine W.widen (k := cells + 20) (n := slots + 8189) (by omega) (by omega) ?_
      exact kk ad K _ _ ls Ag.rf hW hS (lv_sub hl [2, 3, 4, 5, 6, 7] rfl)
    · replace hf := ifF (fun q => q c18) hf
      refine lv_aload_n hx hb dL_law_2375 rfl (lv_at hl 4 rfl) ?_
      refine lv_iconst (v := 0) hx hb dL_law_2376 (by decide) ?_
      replace hf := ckiE hf
      obtain ⟨h19, hf⟩ := hf
      refine x_lald hC hW t3 rfl rfl h19 dL_law_2377 ?_
      refine lv_iload hx hb dL_law_2378 (lv_at hl 0 rfl) ?_
      refine lv_i2l (v := r11.toInt64) hx hb dL_law_2380 rfl ?_
      refine W.lcmp hx hb dL_law_2381 ?_
      refine lv_if_eq (tgt := 2387) hx hb dL_law_2382 (by decide) (fun c20 => ?_) (fun c20 => ?_)
      · replace hf := ifT c20 hf
        refine lv_goto (tgt := 3297) hx hb dL_law_2387 (by decide) ?_
        obtain ⟨e1, e2⟩ := so2 hf
        subst e1
        subst e2
        refine W.widen (k := cells + 20) (n := slots + 8189) (by omega) (by omega) ?_
        exact kk ad K _ _ ls Ag.rf hW hS (lv_sub hl [2, 3, 4, 5, 6, 7] rfl)
      · replace hf := ifF c20 hf
        refine lv_iconst (v := 0) hx hb dL_law_2385 (by decide) ?_
        cases hf
  · replace hf := ifF c17 hf
    refine lv_iconst (v := 0) hx hb dL_law_2368 (by decide) ?_
    cases hf
set_option maxHeartbeats 4000000 in
set_option maxRecDepth 100000 in
theorem c_law41 {p : Program} {e : Env} {R : Room} {s : State} {m : MethodId} {below : List Frame} {meth : Method} {c : Code} {Q : State → Prop} {b L : Nat} {xs : Nat → Int32} {H : Heap} {locs : List Loc} {ls : Array Slot} {cells slots : Nat} (l : Launch) (hfl : l.stackTraces = false) (g : GP) (ad : Nat → Nat) (n : Nat) (K : Nat → Nat) (F : Nat) (S0 : St) (o1 o2 o3 o4 : Nat) (i : Int32) (hC : Cx g p s m #[.ref b] c cL_law RL lw_tbl 9) (hX : va_X b L xs s s.heap) (hbl : b < s.heap.size) (hGs : GF g (fun q : Nat => s.heap.size ≤ q) s s.heap) (hW : Wb g ad n K S0 (fun q : Nat => s.heap.size ≤ q) H) (hS : va_S (fun q : Nat => s.heap.size ≤ q) s.heap H locs) (t1 : o1 < n ∧ K o1 = 9) (t2 : o2 < n ∧ K o2 = 10) (t3 : o3 < n ∧ K o3 = 13) (t4 : o4 < n ∧ K o4 = 17) (hl : lv_has ls 9 [(5, .int i), (4, .ref (ad o4)), (3, .ref (ad o3)), (2, .ref (ad o2)), (1, .ref (ad o1)), (0, .ref b)]) (hRf : 13 ≤ R.frames) (hRl : 280 ≤ R.locals) (hRc : cells + 20 ≤ R.cells) (hRs : slots + 8189 ≤ R.slots) (S9 : St) (n9 : Nat) (hf : f_law41 F xs L S0 n o1 o2 o3 o4 i = some (S9, n9))
    (kk : ∀ (ad9 K9 : Nat → Nat) (H1 : Heap) (locs1 : List Loc) (ls1 : Array Slot), Ag ad K n ad9 K9 n9 → Wb g ad9 n9 K9 S9 (fun q : Nat => s.heap.size ≤ q) H1 → va_S (fun q : Nat => s.heap.size ≤ q) s.heap H1 locs1 → lv_has ls1 9 [(5, .int i), (4, .ref (ad9 o4)), (3, .ref (ad9 o3)), (2, .ref (ad9 o2)), (1, .ref (ad9 o1)), (0, .ref b)] → W p l e R s m #[.ref b] below meth c H1 locs1 (cells + 20) (slots + 8189) Q (F0 m 3297 ls1 [])) :
    W p l e R s m #[.ref b] below meth c H locs cells slots Q (F0 m 2390 ls []) := by
  have hx := hC.1
  have hb := hC.2.1
  have hml := hC.2.2.1
  have hown : s.vm.findClass RL = some m.cls := hC.2.2.2.1
  have hts := hC.2.2.2.2.1
  have hK := hC.2.2.2.2.2
  have hA : ∀ q : Nat, s.heap.size ≤ q → (fun q : Nat => s.heap.size ≤ q) q := fun _ h => h
  have hbA : ¬ (fun q : Nat => s.heap.size ≤ q) b := Nat.not_le.mpr hbl
  unfold f_law41 at hf
  refine lv_aload_n hx hb dL_law_2390 rfl (lv_at hl 4 rfl) ?_
  refine lv_aload_n hx hb dL_law_2391 rfl (lv_at hl 5 rfl) ?_
  refine lv_iload hx hb dL_law_2392 (lv_at hl 0 rfl) ?_
  refine lv_iconst (v := 1) hx hb dL_law_2394 (by decide) ?_
  refine lv_iadd hx hb dL_law_2395 ?_
  replace hf := ckiE hf
  obtain ⟨h1, hf⟩ := hf
  refine va_sld hx hb hX hbl hbA hS h1 dL_law_2396 ?_
  refine lv_aload_n hx hb dL_law_2397 rfl (lv_at hl 5 rfl) ?_
  refine lv_iload hx hb dL_law_2398 (lv_at hl 0 rfl) ?_
  refine lv_iconst (v := 2) hx hb dL_law_2400 (by decide) ?_
  refine lv_iadd hx hb dL_law_2401 ?_
  replace hf := ckiE hf
  obtain ⟨h2, hf⟩ := hf
  refine va_sld hx hb hX hbl hbA hS h2 dL_law_2402 ?_
  refine lv_aload_n hx hb dL_law_2403 rfl (lv_at hl 2 rfl) ?_
  replace hf := obE hf
  obtain ⟨z3, hz3, hf⟩ := hf
  obtain ⟨r5, S4⟩ := z3
  replace hf := ltE (ltE hf r5 rfl) S4 rfl
  refine x_callSWc (As := [.ref (ad o1), .int (xs (Int32.toNatClampNeg (i + 1))), .int (xs (Int32.toNatClampNeg (i + 2))), .ref (ad o3)]) (rest := []) (o := (some (.int r5))) (S1 := S4) hC hl.1 hW hS hGs hA (c_L_recover l hfl g ad n K H.size F S0 o1 (xs (Int32.toNatClampNeg (i + 1))) (xs (Int32.toNatClampNeg (i + 2))) o3 t1 t3 r5 S4 hz3) (vx_cwSW (hh := [(0, 10, 13, 31), (0, 10, 17, 13)]) 4 hts gL_law_L_recover rfl rfl rfl (by decide +kernel) ⟨Nat.le_trans (Nat.le_of_ble_eq_true rfl) hRf, Nat.le_trans (Nat.le_of_ble_eq_true rfl) hRl⟩) rfl rfl (Nat.le_of_ble_eq_true rfl) dL_law_2404 ⟨by omega, by omega⟩ (fun H locs hPz3 hW hS => ?_)
  refine W.widen (k := cells + 2) (n := slots + 12) (by omega) (by omega) ?_
  refine W.eq (g2 := F0 m 2407 ls [.int r5]) rfl ?_
  refine lv_istore (lv' := [(6, .int r5), (5, .int i), (4, .ref (ad o4)), (3, .ref (ad o3)), (2, .ref (ad o2)), (1, .ref (ad o1)), (0, .ref b)]) hx hb dL_law_2407 hl (by decide) rfl (fun ls hl => ?_)
  refine lv_aload_n hx hb dL_law_2409 rfl (lv_at hl 4 rfl) ?_
  refine lv_aload_n hx hb dL_law_2410 rfl (lv_at hl 6 rfl) ?_
  refine lv_iload hx hb dL_law_2411 (lv_at hl 1 rfl) ?_
  refine lv_iconst (v := 1) hx hb dL_law_2413 (by decide) ?_
  refine lv_iadd hx hb dL_law_2414 ?_
  replace hf := ckiE hf
  obtain ⟨h7, hf⟩ := hf
  refine va_sld hx hb hX hbl hbA hS h7 dL_law_2415 ?_
  refine lv_aload_n hx hb dL_law_2416 rfl (lv_at hl 6 rfl) ?_
  refine lv_iload hx hb dL_law_2417 (lv_at hl 1 rfl) ?_
  refine lv_iconst (v := 2) hx hb dL_law_2419 (by decide) ?_
  refine lv_iadd hx hb dL_law_2420 ?_
  replace hf := ckiE hf
  obtain ⟨h8, hf⟩ := hf
  refine va_sld hx hb hX hbl hbA hS h8 dL_law_2421 ?_
  replace hf := obE hf
  obtain ⟨z9, hz9, hf⟩ := hf
  obtain ⟨r11, S10⟩ := z9
  replace hf := ltE (ltE hf r11 rfl) S10 rfl
  refine x_callV (As := [.int (xs (Int32.toNatClampNeg (i + 1))), .int (xs (Int32.toNatClampNeg (i + 2)))]) (rest := []) (o := (some (.int r11))) (S1 := S10) hC hl.1 hW hS hGs hA t2 rfl (show vwCl[10]? = some (RX11, TX11, 30) ∧ 10 < 11 from ⟨rfl, by decide⟩) (c_X11_recover l g ad n K H.size F S4 o2 (xs (Int32.toNatClampNeg (i + 1))) (xs (Int32.toNatClampNeg (i + 2))) t2 r11 S10 hz9) (cwV 2 hts gL_law_X11_recover rfl rfl rfl (by decide +kernel) ⟨Nat.le_trans (Nat.le_of_ble_eq_true rfl) hRf, Nat.le_trans (Nat.le_of_ble_eq_true rfl) hRl⟩) rfl rfl (Nat.le_of_ble_eq_true rfl) dL_law_2422 ⟨by omega, by omega⟩ (fun H locs hPz9 hW hS => ?_)
  refine W.eq (g2 := F0 m 2425 ls [.int r11]) rfl ?_
  refine lv_istore (lv' := [(7, .int r11), (6, .int r5), (5, .int i), (4, .ref (ad o4)), (3, .ref (ad o3)), (2, .ref (ad o2)), (1, .ref (ad o1)), (0, .ref b)]) hx hb dL_law_2425 hl (by decide) rfl (fun ls hl => ?_)
  refine lv_aload_n hx hb dL_law_2427 rfl (lv_at hl 5 rfl) ?_
  replace hf := obE hf
  obtain ⟨z13, hz13, hf⟩ := hf
  obtain ⟨r15, S14⟩ := z13
  replace hf := ltE (ltE hf r15 rfl) S14 rfl
  refine x_callV (As := []) (rest := []) (o := (some (.int r15))) (S1 := S14) hC hl.1 hW hS hGs hA t2 rfl (show vwCl[10]? = some (RX11, TX11, 30) ∧ 10 < 11 from ⟨rfl, by decide⟩) (c_X11_thrown l g ad n K H.size F S10 o2 t2 r15 S14 hz13) (cwV 0 hts gL_law_X11_thrown rfl rfl rfl (by decide +kernel) ⟨Nat.le_trans (Nat.le_of_ble_eq_true rfl) hRf, Nat.le_trans (Nat.le_of_ble_eq_true rfl) hRl⟩) rfl rfl (Nat.le_of_ble_eq_true rfl) dL_law_2428 ⟨by omega, by omega⟩ (fun H locs hPz13 hW hS => ?_)
  refine W.eq (g2 := F0 m 2431 ls [.int r15]) rfl ?_
  refine lv_iload hx hb dL_law_2431 (lv_at hl 1 rfl) ?_
  refine lv_icmp_eq (tgt := 2438) hx hb dL_law_2433 (by decide) (fun c17 => ?_) (fun c17 => ?_)
  · replace hf := ifT c17 hf
    refine lv_iload hx hb dL_law_2438 (lv_at hl 1 rfl) ?_
    refine lv_if_ne (tgt := 2455) hx hb dL_law_2440 (by decide) (fun c18 => ?_) (fun c18 => ?_)
    · replace hf := ifT c18 hf
      refine lv_goto (tgt := 3297) hx hb dL_law_2455 (by decide) ?_
      obtain ⟨e1, e2⟩ := so2 hf
      subst e1
      subst e2
      refine W.widen (k := cells + 20) (n := slots + 8189) (by omega) (by omega) ?_
      exact kk ad K _ _ ls Ag.rf hW hS (lv_sub hl [2, 3, 4, 5, 6, 7] rfl)
    · replace hf := ifF (fun q => q c18) hf
      refine lv_aload_n hx hb dL_law_2443 rfl (lv_at hl 4 rfl) ?_
      refine lv_iconst (v := 0) hx hb dL_law_2444 (by decide) ?_
      replace hf := ckiE hf
      obtain ⟨h19, hf⟩ := hf
      refine x_lald hC hW t3 rfl rfl h19 dL_law_2445 ?_
      refine lv_iload hx hb dL_law_2446 (lv_at hl 0 rfl) ?_
      refine lv_i2l (v := r11.toInt64) hx hb dL_law_2448 rfl ?_
      refine W.lcmp hx hb dL_law_2449 ?_
      refine lv_if_eq (tgt := 2455) hx hb dL_law_2450 (by decide) (fun c20 => ?_) (fun c20 => ?_)
      · replace hf := ifT c20 hf
        refine lv_goto (tgt := 3297) hx hb dL_law_2455 (by decide) ?_
        obtain ⟨e1, e2⟩ := so2 hf
        subst e1
        subst e2
        refine W.widen (k := cells + 20) (n := slots + 8189) (by omega) (by omega) ?_
        exact kk ad K _ _ ls Ag.rf hW hS (lv_sub hl [2, 3, 4, 5, 6, 7] rfl)
      · replace hf := ifF c20 hf
        refine lv_iconst (v := 0) hx hb dL_law_2453 (by decide) ?_
        cases hf
  · replace hf := ifF c17 hf
    refine lv_iconst (v := 0) hx hb dL_law_2436 (by decide) ?_
    cases hf
set_option maxHeartbeats 4000000 in
set_option maxRecDepth 100000 in
theorem c_law42 {p : Program} {e : Env} {R : Room} {s : State} {m : MethodId} {below : List Frame} {meth : Method} {c : Code} {Q : State → Prop} {b L : Nat} {xs : Nat → Int32} {H : Heap} {locs : List Loc} {ls : Array Slot} {cells slots : Nat} (l : Launch) (hfl : l.stackTraces = false) (g : GP) (ad : Nat → Nat) (n : Nat) (K : Nat → Nat) (F : Nat) (S0 : St) (o1 o2 o3 o4 : Nat) (i : Int32) (hC : Cx g p s m #[.ref b] c cL_law RL lw_tbl 9) (hX : va_X b L xs s s.heap) (hbl : b < s.heap.size) (hGs : GF g (fun q : Nat => s.heap.size ≤ q) s s.heap) (hW : Wb g ad n K S0 (fun q : Nat => s.heap.size ≤ q) H) (hS : va_S (fun q : Nat => s.heap.size ≤ q) s.heap H locs) (t1 : o1 < n ∧ K o1 = 9) (t2 : o2 < n ∧ K o2 = 10) (t3 : o3 < n ∧ K o3 = 13) (t4 : o4 < n ∧ K o4 = 17) (hl : lv_has ls 9 [(5, .int i), (4, .ref (ad o4)), (3, .ref (ad o3)), (2, .ref (ad o2)), (1, .ref (ad o1)), (0, .ref b)]) (hRf : 13 ≤ R.frames) (hRl : 280 ≤ R.locals) (hRc : cells + 20 ≤ R.cells) (hRs : slots + 8189 ≤ R.slots) (S9 : St) (n9 : Nat) (hf : f_law42 F xs L S0 n o1 o2 o3 o4 i = some (S9, n9))
    (kk : ∀ (ad9 K9 : Nat → Nat) (H1 : Heap) (locs1 : List Loc) (ls1 : Array Slot), Ag ad K n ad9 K9 n9 → Wb g ad9 n9 K9 S9 (fun q : Nat => s.heap.size ≤ q) H1 → va_S (fun q : Nat => s.heap.size ≤ q) s.heap H1 locs1 → lv_has ls1 9 [(5, .int i), (4, .ref (ad9 o4)), (3, .ref (ad9 o3)), (2, .ref (ad9 o2)), (1, .ref (ad9 o1)), (0, .ref b)] → W p l e R s m #[.ref b] below meth c H1 locs1 (cells + 20) (slots + 8189) Q (F0 m 3297 ls1 [])) :
    W p l e R s m #[.ref b] below meth c H locs cells slots Q (F0 m 2458 ls []) := by
  have hx := hC.1
  have hb := hC.2.1
  have hml := hC.2.2.1
  have hown : s.vm.findClass RL = some m.cls := hC.2.2.2.1
  have hts := hC.2.2.2.2.1
  have hK := hC.2.2.2.2.2
  have hA : ∀ q : Nat, s.heap.size ≤ q → (fun q : Nat => s.heap.size ≤ q) q := fun _ h => h
  have hbA : ¬ (fun q : Nat => s.heap.size ≤ q) b := Nat.not_le.mpr hbl
  unfold f_law42 at hf
  refine lv_aload_n hx hb dL_law_2458 rfl (lv_at hl 4 rfl) ?_
  refine lv_aload_n hx hb dL_law_2459 rfl (lv_at hl 5 rfl) ?_
  refine lv_iload hx hb dL_law_2460 (lv_at hl 0 rfl) ?_
  refine lv_iconst (v := 1) hx hb dL_law_2462 (by decide) ?_
  refine lv_iadd hx hb dL_law_2463 ?_
  replace hf := ckiE hf
  obtain ⟨h1, hf⟩ := hf
  refine va_sld hx hb hX hbl hbA hS h1 dL_law_2464 ?_
  refine lv_aload_n hx hb dL_law_2465 rfl (lv_at hl 2 rfl) ?_
  replace hf := obE hf
  obtain ⟨z2, hz2, hf⟩ := hf
  obtain ⟨r4, S3⟩ := z2
  replace hf := ltE (ltE hf r4 rfl) S3 rfl
  refine x_callSWc (As := [.ref (ad o1), .int (xs (Int32.toNatClampNeg (i + 1))), .ref (ad o3)]) (rest := []) (o := (some (.int r4))) (S1 := S3) hC hl.1 hW hS hGs hA (c_L_isActive l hfl g ad n K H.size F S0 o1 (xs (Int32.toNatClampNeg (i + 1))) o3 t1 t3 r4 S3 hz2) (vx_cwSW (hh := [(0, 16, 19, 31)]) 3 hts gL_law_L_isActive rfl rfl rfl (by decide +kernel) ⟨Nat.le_trans (Nat.le_of_ble_eq_true rfl) hRf, Nat.le_trans (Nat.le_of_ble_eq_true rfl) hRl⟩) rfl rfl (Nat.le_of_ble_eq_true rfl) dL_law_2466 ⟨by omega, by omega⟩ (fun H locs hPz2 hW hS => ?_)
  refine W.widen (k := cells + 1) (n := slots + 6) (by omega) (by omega) ?_
  refine W.eq (g2 := F0 m 2469 ls [.int r4]) rfl ?_
  refine lv_istore (lv' := [(6, .int r4), (5, .int i), (4, .ref (ad o4)), (3, .ref (ad o3)), (2, .ref (ad o2)), (1, .ref (ad o1)), (0, .ref b)]) hx hb dL_law_2469 hl (by decide) rfl (fun ls hl => ?_)
  refine lv_aload_n hx hb dL_law_2471 rfl (lv_at hl 4 rfl) ?_
  refine lv_aload_n hx hb dL_law_2472 rfl (lv_at hl 6 rfl) ?_
  refine lv_iload hx hb dL_law_2473 (lv_at hl 1 rfl) ?_
  refine lv_iconst (v := 1) hx hb dL_law_2475 (by decide) ?_
  refine lv_iadd hx hb dL_law_2476 ?_
  replace hf := ckiE hf
  obtain ⟨h6, hf⟩ := hf
  refine va_sld hx hb hX hbl hbA hS h6 dL_law_2477 ?_
  replace hf := obE hf
  obtain ⟨z7, hz7, hf⟩ := hf
  obtain ⟨r9, S8⟩ := z7
  replace hf := ltE (ltE hf r9 rfl) S8 rfl
  refine x_callV (As := [.int (xs (Int32.toNatClampNeg (i + 1)))]) (rest := []) (o := (some (.int r9))) (S1 := S8) hC hl.1 hW hS hGs hA t2 rfl (show vwCl[10]? = some (RX11, TX11, 30) ∧ 10 < 11 from ⟨rfl, by decide⟩) (c_X11_isActive l g ad n K H.size F S3 o2 (xs (Int32.toNatClampNeg (i + 1))) t2 r9 S8 hz7) (cwV 1 hts gL_law_X11_isActive rfl rfl rfl (by decide +kernel) ⟨Nat.le_trans (Nat.le_of_ble_eq_true rfl) hRf, Nat.le_trans (Nat.le_of_ble_eq_true rfl) hRl⟩) rfl rfl (Nat.le_of_ble_eq_true rfl) dL_law_2478 ⟨by omega, by omega⟩ (fun H locs hPz7 hW hS => ?_)
  refine W.eq (g2 := F0 m 2481 ls [.int r9]) rfl ?_
  refine lv_istore (lv' := [(7, .int r9), (6, .int r4), (5, .int i), (4, .ref (ad o4)), (3, .ref (ad o3)), (2, .ref (ad o2)), (1, .ref (ad o1)), (0, .ref b)]) hx hb dL_law_2481 hl (by decide) rfl (fun ls hl => ?_)
  refine lv_aload_n hx hb dL_law_2483 rfl (lv_at hl 5 rfl) ?_
  replace hf := obE hf
  obtain ⟨z11, hz11, hf⟩ := hf
  obtain ⟨r13, S12⟩ := z11
  replace hf := ltE (ltE hf r13 rfl) S12 rfl
  refine x_callV (As := []) (rest := []) (o := (some (.int r13))) (S1 := S12) hC hl.1 hW hS hGs hA t2 rfl (show vwCl[10]? = some (RX11, TX11, 30) ∧ 10 < 11 from ⟨rfl, by decide⟩) (c_X11_thrown l g ad n K H.size F S8 o2 t2 r13 S12 hz11) (cwV 0 hts gL_law_X11_thrown rfl rfl rfl (by decide +kernel) ⟨Nat.le_trans (Nat.le_of_ble_eq_true rfl) hRf, Nat.le_trans (Nat.le_of_ble_eq_true rfl) hRl⟩) rfl rfl (Nat.le_of_ble_eq_true rfl) dL_law_2484 ⟨by omega, by omega⟩ (fun H locs hPz11 hW hS => ?_)
  refine W.eq (g2 := F0 m 2487 ls [.int r13]) rfl ?_
  refine lv_iload hx hb dL_law_2487 (lv_at hl 1 rfl) ?_
  refine lv_icmp_eq (tgt := 2494) hx hb dL_law_2489 (by decide) (fun c15 => ?_) (fun c15 => ?_)
  · replace hf := ifT c15 hf
    refine lv_iload hx hb dL_law_2494 (lv_at hl 1 rfl) ?_
    refine lv_if_ne (tgt := 2518) hx hb dL_law_2496 (by decide) (fun c16 => ?_) (fun c16 => ?_)
    · replace hf := ifT c16 hf
      refine lv_goto (tgt := 3297) hx hb dL_law_2518 (by decide) ?_
      obtain ⟨e1, e2⟩ := so2 hf
      subst e1
      subst e2
      refine W.widen (k := cells + 20) (n := slots + 8189) (by omega) (by omega) ?_
      exact kk ad K _ _ ls Ag.rf hW hS (lv_sub hl [2, 3, 4, 5, 6, 7] rfl)
    · replace hf := ifF (fun q => q c16) hf
      refine lv_aload_n hx hb dL_law_2499 rfl (lv_at hl 4 rfl) ?_
      refine lv_iconst (v := 0) hx hb dL_law_2500 (by decide) ?_
      replace hf := ckiE hf
      obtain ⟨h17, hf⟩ := hf
      refine x_lald hC hW t3 rfl rfl h17 dL_law_2501 ?_
      refine lv_iload hx hb dL_law_2502 (lv_at hl 0 rfl) ?_
      refine lv_if_eq (tgt := 2511) hx hb dL_law_2504 (by decide) (fun c18 => ?_) (fun c18 => ?_)
      · replace hf := ifT c18 hf
        refine lv_lconst (v := 0) hx hb dL_law_2511 (by decide) ?_
        refine W.lcmp hx hb dL_law_2512 ?_
        refine lv_if_eq (tgt := 2518) hx hb dL_law_2513 (by decide) (fun c19 => ?_) (fun c19 => ?_)
        · replace hf := ifT c19 hf
          refine lv_goto (tgt := 3297) hx hb dL_law_2518 (by decide) ?_
          obtain ⟨e1, e2⟩ := so2 hf
          subst e1
          subst e2
          refine W.widen (k := cells + 20) (n := slots + 8189) (by omega) (by omega) ?_
          exact kk ad K _ _ ls Ag.rf hW hS (lv_sub hl [2, 3, 4, 5, 6, 7] rfl)
        · replace hf := ifF c19 hf
          refine lv_iconst (v := 0) hx hb dL_law_2516 (by decide) ?_
          cases hf
      · replace hf := ifF c18 hf
        refine lv_lconst (v := 1) hx hb dL_law_2507 (by decide) ?_
        refine lv_goto (tgt := 2512) hx hb dL_law_2508 (by decide) ?_
        refine W.lcmp hx hb dL_law_2512 ?_
        refine lv_if_eq (tgt := 2518) hx hb dL_law_2513 (by decide) (fun c20 => ?_) (fun c20 => ?_)
        · replace hf := ifT c20 hf
          refine lv_goto (tgt := 3297) hx hb dL_law_2518 (by decide) ?_
          obtain ⟨e1, e2⟩ := so2 hf
          subst e1
          subst e2
          refine W.widen (k := cells + 20) (n := slots + 8189) (by omega) (by omega) ?_
          exact kk ad K _ _ ls Ag.rf hW hS (lv_sub hl [2, 3, 4, 5, 6, 7] rfl)
        · replace hf := ifF c20 hf
          refine lv_iconst (v := 0) hx hb dL_law_2516 (by decide) ?_
          cases hf
  · replace hf := ifF c15 hf
    refine lv_iconst (v := 0) hx hb dL_law_2492 (by decide) ?_
    cases hf
set_option maxHeartbeats 4000000 in
set_option maxRecDepth 100000 in
theorem c_law43 {p : Program} {e : Env} {R : Room} {s : State} {m : MethodId} {below : List Frame} {meth : Method} {c : Code} {Q : State → Prop} {b L : Nat} {xs : Nat → Int32} {H : Heap} {locs : List Loc} {ls : Array Slot} {cells slots : Nat} (l : Launch) (hfl : l.stackTraces = false) (g : GP) (ad : Nat → Nat) (n : Nat) (K : Nat → Nat) (F : Nat) (S0 : St) (o1 o2 o3 o4 : Nat) (i : Int32) (hC : Cx g p s m #[.ref b] c cL_law RL lw_tbl 9) (hX : va_X b L xs s s.heap) (hbl : b < s.heap.size) (hGs : GF g (fun q : Nat => s.heap.size ≤ q) s s.heap) (hW : Wb g ad n K S0 (fun q : Nat => s.heap.size ≤ q) H) (hS : va_S (fun q : Nat => s.heap.size ≤ q) s.heap H locs) (t1 : o1 < n ∧ K o1 = 9) (t2 : o2 < n ∧ K o2 = 10) (t3 : o3 < n ∧ K o3 = 13) (t4 : o4 < n ∧ K o4 = 17) (hl : lv_has ls 9 [(5, .int i), (4, .ref (ad o4)), (3, .ref (ad o3)), (2, .ref (ad o2)), (1, .ref (ad o1)), (0, .ref b)]) (hRf : 13 ≤ R.frames) (hRl : 280 ≤ R.locals) (hRc : cells + 20 ≤ R.cells) (hRs : slots + 8189 ≤ R.slots) (S9 : St) (n9 : Nat) (hf : f_law43 F xs L S0 n o1 o2 o3 o4 i = some (S9, n9))
    (kk : ∀ (ad9 K9 : Nat → Nat) (H1 : Heap) (locs1 : List Loc) (ls1 : Array Slot), Ag ad K n ad9 K9 n9 → Wb g ad9 n9 K9 S9 (fun q : Nat => s.heap.size ≤ q) H1 → va_S (fun q : Nat => s.heap.size ≤ q) s.heap H1 locs1 → lv_has ls1 9 [(5, .int i), (4, .ref (ad9 o4)), (3, .ref (ad9 o3)), (2, .ref (ad9 o2)), (1, .ref (ad9 o1)), (0, .ref b)] → W p l e R s m #[.ref b] below meth c H1 locs1 (cells + 20) (slots + 8189) Q (F0 m 3297 ls1 [])) :
    W p l e R s m #[.ref b] below meth c H locs cells slots Q (F0 m 2521 ls []) := by
  have hx := hC.1
  have hb := hC.2.1
  have hml := hC.2.2.1
  have hown : s.vm.findClass RL = some m.cls := hC.2.2.2.1
  have hts := hC.2.2.2.2.1
  have hK := hC.2.2.2.2.2
  have hA : ∀ q : Nat, s.heap.size ≤ q → (fun q : Nat => s.heap.size ≤ q) q := fun _ h => h
  have hbA : ¬ (fun q : Nat => s.heap.size ≤ q) b := Nat.not_le.mpr hbl
  unfold f_law43 at hf
  refine lv_aload_n hx hb dL_law_2521 rfl (lv_at hl 4 rfl) ?_
  refine lv_aload_n hx hb dL_law_2522 rfl (lv_at hl 5 rfl) ?_
  refine lv_iload hx hb dL_law_2523 (lv_at hl 0 rfl) ?_
  refine lv_iconst (v := 1) hx hb dL_law_2525 (by decide) ?_
  refine lv_iadd hx hb dL_law_2526 ?_
  replace hf := ckiE hf
  obtain ⟨h1, hf⟩ := hf
  refine va_sld hx hb hX hbl hbA hS h1 dL_law_2527 ?_
  refine lv_aload_n hx hb dL_law_2528 rfl (lv_at hl 5 rfl) ?_
  refine lv_iload hx hb dL_law_2529 (lv_at hl 0 rfl) ?_
  refine lv_iconst (v := 2) hx hb dL_law_2531 (by decide) ?_
  refine lv_iadd hx hb dL_law_2532 ?_
  replace hf := ckiE hf
  obtain ⟨h2, hf⟩ := hf
  refine va_sld hx hb hX hbl hbA hS h2 dL_law_2533 ?_
  refine lv_if_eq (tgt := 2541) hx hb dL_law_2534 (by decide) (fun c3 => ?_) (fun c3 => ?_)
  · replace hf := ifT c3 hf
    refine lv_iconst (v := 0) hx hb dL_law_2541 (by decide) ?_
    refine lv_aload_n hx hb dL_law_2542 rfl (lv_at hl 2 rfl) ?_
    replace hf := obE hf
    obtain ⟨z4, hz4, hf⟩ := hf
    obtain ⟨r6, S5⟩ := z4
    replace hf := ltE (ltE hf r6 rfl) S5 rfl
    refine x_callSWc (As := [.ref (ad o1), .int (xs (Int32.toNatClampNeg (i + 1))), .int 0, .ref (ad o3)]) (rest := []) (o := (some (.int r6))) (S1 := S5) hC hl.1 hW hS hGs hA (c_L_setHold l hfl g ad n K H.size F S0 o1 (xs (Int32.toNatClampNeg (i + 1))) ((0 : Int32)) o3 t1 t3 r6 S5 hz4) (vx_cwSW (hh := [(0, 10, 13, 31)]) 4 hts gL_law_L_setHold rfl rfl rfl (by decide +kernel) ⟨Nat.le_trans (Nat.le_of_ble_eq_true rfl) hRf, Nat.le_trans (Nat.le_of_ble_eq_true rfl) hRl⟩) rfl rfl (Nat.le_of_ble_eq_true rfl) dL_law_2543 ⟨by omega, by omega⟩ (fun H locs hPz4 hW hS => ?_)
    refine W.widen (k := cells + 1) (n := slots + 6) (by omega) (by omega) ?_
    refine W.eq (g2 := F0 m 2546 ls [.int r6]) rfl ?_
    refine lv_istore (lv' := [(6, .int r6), (5, .int i), (4, .ref (ad o4)), (3, .ref (ad o3)), (2, .ref (ad o2)), (1, .ref (ad o1)), (0, .ref b)]) hx hb dL_law_2546 hl (by decide) rfl (fun ls hl => ?_)
    refine lv_aload_n hx hb dL_law_2548 rfl (lv_at hl 4 rfl) ?_
    refine lv_aload_n hx hb dL_law_2549 rfl (lv_at hl 6 rfl) ?_
    refine lv_iload hx hb dL_law_2550 (lv_at hl 1 rfl) ?_
    refine lv_iconst (v := 1) hx hb dL_law_2552 (by decide) ?_
    refine lv_iadd hx hb dL_law_2553 ?_
    replace hf := ckiE hf
    obtain ⟨h8, hf⟩ := hf
    refine va_sld hx hb hX hbl hbA hS h8 dL_law_2554 ?_
    refine lv_aload_n hx hb dL_law_2555 rfl (lv_at hl 6 rfl) ?_
    refine lv_iload hx hb dL_law_2556 (lv_at hl 1 rfl) ?_
    refine lv_iconst (v := 2) hx hb dL_law_2558 (by decide) ?_
    refine lv_iadd hx hb dL_law_2559 ?_
    replace hf := ckiE hf
    obtain ⟨h9, hf⟩ := hf
    refine va_sld hx hb hX hbl hbA hS h9 dL_law_2560 ?_
    refine lv_if_eq (tgt := 2568) hx hb dL_law_2561 (by decide) (fun c10 => ?_) (fun c10 => ?_)
    · replace hf := ifT c10 hf
      refine lv_iconst (v := 0) hx hb dL_law_2568 (by decide) ?_
      replace hf := obE hf
      obtain ⟨z11, hz11, hf⟩ := hf
      obtain ⟨r13, S12⟩ := z11
      replace hf := ltE (ltE hf r13 rfl) S12 rfl
      refine x_callV (As := [.int (xs (Int32.toNatClampNeg (i + 1))), .int 0]) (rest := []) (o := (some (.int r13))) (S1 := S12) hC hl.1 hW hS hGs hA t2 rfl (show vwCl[10]? = some (RX11, TX11, 30) ∧ 10 < 11 from ⟨rfl, by decide⟩) (c_X11_setHold l g ad n K H.size F S5 o2 (xs (Int32.toNatClampNeg (i + 1))) ((0 : Int32)) t2 r13 S12 hz11) (cwV 2 hts gL_law_X11_setHold rfl rfl rfl (by decide +kernel) ⟨Nat.le_trans (Nat.le_of_ble_eq_true rfl) hRf, Nat.le_trans (Nat.le_of_ble_eq_true rfl) hRl⟩) rfl rfl (Nat.le_of_ble_eq_true rfl) dL_law_2569 ⟨by omega, by omega⟩ (fun H locs hPz11 hW hS => ?_)
      refine W.eq (g2 := F0 m 2572 ls [.int r13]) rfl ?_
      refine lv_istore (lv' := [(7, .int r13), (6, .int r6), (5, .int i), (4, .ref (ad o4)), (3, .ref (ad o3)), (2, .ref (ad o2)), (1, .ref (ad o1)), (0, .ref b)]) hx hb dL_law_2572 hl (by decide) rfl (fun ls hl => ?_)
      refine lv_aload_n hx hb dL_law_2574 rfl (lv_at hl 5 rfl) ?_
      replace hf := obE hf
      obtain ⟨z15, hz15, hf⟩ := hf
      obtain ⟨r17, S16⟩ := z15
      replace hf := ltE (ltE hf r17 rfl) S16 rfl
      refine x_callV (As := []) (rest := []) (o := (some (.int r17))) (S1 := S16) hC hl.1 hW hS hGs hA t2 rfl (show vwCl[10]? = some (RX11, TX11, 30) ∧ 10 < 11 from ⟨rfl, by decide⟩) (c_X11_thrown l g ad n K H.size F S12 o2 t2 r17 S16 hz15) (cwV 0 hts gL_law_X11_thrown rfl rfl rfl (by decide +kernel) ⟨Nat.le_trans (Nat.le_of_ble_eq_true rfl) hRf, Nat.le_trans (Nat.le_of_ble_eq_true rfl) hRl⟩) rfl rfl (Nat.le_of_ble_eq_true rfl) dL_law_2575 ⟨by omega, by omega⟩ (fun H locs hPz15 hW hS => ?_)
      refine W.eq (g2 := F0 m 2578 ls [.int r17]) rfl ?_
      refine lv_iload hx hb dL_law_2578 (lv_at hl 1 rfl) ?_
      refine lv_icmp_eq (tgt := 2585) hx hb dL_law_2580 (by decide) (fun c19 => ?_) (fun c19 => ?_)
      · replace hf := ifT c19 hf
        refine lv_iload hx hb dL_law_2585 (lv_at hl 1 rfl) ?_
        refine lv_if_ne (tgt := 2602) hx hb dL_law_2587 (by decide) (fun c20 => ?_) (fun c20 => ?_)
        · replace hf := ifT c20 hf
          refine lv_goto (tgt := 3297) hx hb dL_law_2602 (by decide) ?_
          obtain ⟨e1, e2⟩ := so2 hf
          subst e1
          subst e2
          refine W.widen (k := cells + 20) (n := slots + 8189) (by omega) (by omega) ?_
          exact kk ad K _ _ ls Ag.rf hW hS (lv_sub hl [2, 3, 4, 5, 6, 7] rfl)
        · replace hf := ifF (fun q => q c20) hf
          refine lv_aload_n hx hb dL_law_2590 rfl (lv_at hl 4 rfl) ?_
          refine lv_iconst (v := 0) hx hb dL_law_2591 (by decide) ?_
          replace hf := ckiE hf
          obtain ⟨h21, hf⟩ := hf
          refine x_lald hC hW t3 rfl rfl h21 dL_law_2592 ?_
          refine lv_iload hx hb dL_law_2593 (lv_at hl 0 rfl) ?_
          refine lv_i2l (v := r13.toInt64) hx hb dL_law_2595 rfl ?_
          refine W.lcmp hx hb dL_law_2596 ?_
          refine lv_if_eq (tgt := 2602) hx hb dL_law_2597 (by decide) (fun c22 => ?_) (fun c22 => ?_)
          · replace hf := ifT c22 hf
            refine lv_goto (tgt := 3297) hx hb dL_law_2602 (by decide) ?_
            obtain ⟨e1, e2⟩ := so2 hf
            subst e1
            subst e2
            refine W.widen (k := cells + 20) (n := slots + 8189) (by omega) (by omega) ?_
            exact kk ad K _ _ ls Ag.rf hW hS (lv_sub hl [2, 3, 4, 5, 6, 7] rfl)
          · replace hf := ifF c22 hf
            refine lv_iconst (v := 0) hx hb dL_law_2600 (by decide) ?_
            cases hf
      · replace hf := ifF c19 hf
        refine lv_iconst (v := 0) hx hb dL_law_2583 (by decide) ?_
        cases hf
    · replace hf := ifF c10 hf
      refine lv_iconst (v := 1) hx hb dL_law_2564 (by decide) ?_
      refine lv_goto (tgt := 2569) hx hb dL_law_2565 (by decide) ?_
      replace hf := obE hf
      obtain ⟨z23, hz23, hf⟩ := hf
      obtain ⟨r25, S24⟩ := z23
      replace hf := ltE (ltE hf r25 rfl) S24 rfl
      refine x_callV (As := [.int (xs (Int32.toNatClampNeg (i + 1))), .int 1]) (rest := []) (o := (some (.int r25))) (S1 := S24) hC hl.1 hW hS hGs hA t2 rfl (show vwCl[10]? = some (RX11, TX11, 30) ∧ 10 < 11 from ⟨rfl, by decide⟩) (c_X11_setHold l g ad n K H.size F S5 o2 (xs (Int32.toNatClampNeg (i + 1))) ((1 : Int32)) t2 r25 S24 hz23) (cwV 2 hts gL_law_X11_setHold rfl rfl rfl (by decide +kernel) ⟨Nat.le_trans (Nat.le_of_ble_eq_true rfl) hRf, Nat.le_trans (Nat.le_of_ble_eq_true rfl) hRl⟩) rfl rfl (Nat.le_of_ble_eq_true rfl) dL_law_2569 ⟨by omega, by omega⟩ (fun H locs hPz23 hW hS => ?_)
      refine W.eq (g2 := F0 m 2572 ls [.int r25]) rfl ?_
      refine lv_istore (lv' := [(7, .int r25), (6, .int r6), (5, .int i), (4, .ref (ad o4)), (3, .ref (ad o3)), (2, .ref (ad o2)), (1, .ref (ad o1)), (0, .ref b)]) hx hb dL_law_2572 hl (by decide) rfl (fun ls hl => ?_)
      refine lv_aload_n hx hb dL_law_2574 rfl (lv_at hl 5 rfl) ?_
      replace hf := obE hf
      obtain ⟨z27, hz27, hf⟩ := hf
      obtain ⟨r29, S28⟩ := z27
      replace hf := ltE (ltE hf r29 rfl) S28 rfl
      refine x_callV (As := []) (rest := []) (o := (some (.int r29))) (S1 := S28) hC hl.1 hW hS hGs hA t2 rfl (show vwCl[10]? = some (RX11, TX11, 30) ∧ 10 < 11 from ⟨rfl, by decide⟩) (c_X11_thrown l g ad n K H.size F S24 o2 t2 r29 S28 hz27) (cwV 0 hts gL_law_X11_thrown rfl rfl rfl (by decide +kernel) ⟨Nat.le_trans (Nat.le_of_ble_eq_true rfl) hRf, Nat.le_trans (Nat.le_of_ble_eq_true rfl) hRl⟩) rfl rfl (Nat.le_of_ble_eq_true rfl) dL_law_2575 ⟨by omega, by omega⟩ (fun H locs hPz27 hW hS => ?_)
      refine W.eq (g2 := F0 m 2578 ls [.int r29]) rfl ?_
      refine lv_iload hx hb dL_law_2578 (lv_at hl 1 rfl) ?_
      refine lv_icmp_eq (tgt := 2585) hx hb dL_law_2580 (by decide) (fun c31 => ?_) (fun c31 => ?_)
      · replace hf := ifT c31 hf
        refine lv_iload hx hb dL_law_2585 (lv_at hl 1 rfl) ?_
        refine lv_if_ne (tgt := 2602) hx hb dL_law_2587 (by decide) (fun c32 => ?_) (fun c32 => ?_)
        · replace hf := ifT c32 hf
          refine lv_goto (tgt := 3297) hx hb dL_law_2602 (by decide) ?_
          obtain ⟨e1, e2⟩ := so2 hf
          subst e1
          subst e2
          refine W.widen (k := cells + 20) (n := slots + 8189) (by omega) (by omega) ?_
          exact kk ad K _ _ ls Ag.rf hW hS (lv_sub hl [2, 3, 4, 5, 6, 7] rfl)
        · replace hf := ifF (fun q => q c32) hf
          refine lv_aload_n hx hb dL_law_2590 rfl (lv_at hl 4 rfl) ?_
          refine lv_iconst (v := 0) hx hb dL_law_2591 (by decide) ?_
          replace hf := ckiE hf
          obtain ⟨h33, hf⟩ := hf
          refine x_lald hC hW t3 rfl rfl h33 dL_law_2592 ?_
          refine lv_iload hx hb dL_law_2593 (lv_at hl 0 rfl) ?_
          refine lv_i2l (v := r25.toInt64) hx hb dL_law_2595 rfl ?_
          refine W.lcmp hx hb dL_law_2596 ?_
          refine lv_if_eq (tgt := 2602) hx hb dL_law_2597 (by decide) (fun c34 => ?_) (fun c34 => ?_)
          · replace hf := ifT c34 hf
            refine lv_goto (tgt := 3297) hx hb dL_law_2602 (by decide) ?_
            obtain ⟨e1, e2⟩ := so2 hf
            subst e1
            subst e2
            refine W.widen (k := cells + 20) (n := slots + 8189) (by omega) (by omega) ?_
            exact kk ad K _ _ ls Ag.rf hW hS (lv_sub hl [2, 3, 4, 5, 6, 7] rfl)
          · replace hf := ifF c34 hf
            refine lv_iconst (v := 0) hx hb dL_law_2600 (by decide) ?_
            cases hf
      · replace hf := ifF c31 hf
        refine lv_iconst (v := 0) hx hb dL_law_2583 (by decide) ?_
        cases hf
  · replace hf := ifF c3 hf
    refine lv_iconst (v := 1) hx hb dL_law_2537 (by decide) ?_
    refine lv_goto (tgt := 2542) hx hb dL_law_2538 (by decide) ?_
    refine lv_aload_n hx hb dL_law_2542 rfl (lv_at hl 2 rfl) ?_
    replace hf := obE hf
    obtain ⟨z35, hz35, hf⟩ := hf
    obtain ⟨r37, S36⟩ := z35
    replace hf := ltE (ltE hf r37 rfl) S36 rfl
    refine x_callSWc (As := [.ref (ad o1), .int (xs (Int32.toNatClampNeg (i + 1))), .int 1, .ref (ad o3)]) (rest := []) (o := (some (.int r37))) (S1 := S36) hC hl.1 hW hS hGs hA (c_L_setHold l hfl g ad n K H.size F S0 o1 (xs (Int32.toNatClampNeg (i + 1))) ((1 : Int32)) o3 t1 t3 r37 S36 hz35) (vx_cwSW (hh := [(0, 10, 13, 31)]) 4 hts gL_law_L_setHold rfl rfl rfl (by decide +kernel) ⟨Nat.le_trans (Nat.le_of_ble_eq_true rfl) hRf, Nat.le_trans (Nat.le_of_ble_eq_true rfl) hRl⟩) rfl rfl (Nat.le_of_ble_eq_true rfl) dL_law_2543 ⟨by omega, by omega⟩ (fun H locs hPz35 hW hS => ?_)
    refine W.widen (k := cells + 1) (n := slots + 6) (by omega) (by omega) ?_
    refine W.eq (g2 := F0 m 2546 ls [.int r37]) rfl ?_
    refine lv_istore (lv' := [(6, .int r37), (5, .int i), (4, .ref (ad o4)), (3, .ref (ad o3)), (2, .ref (ad o2)), (1, .ref (ad o1)), (0, .ref b)]) hx hb dL_law_2546 hl (by decide) rfl (fun ls hl => ?_)
    refine lv_aload_n hx hb dL_law_2548 rfl (lv_at hl 4 rfl) ?_
    refine lv_aload_n hx hb dL_law_2549 rfl (lv_at hl 6 rfl) ?_
    refine lv_iload hx hb dL_law_2550 (lv_at hl 1 rfl) ?_
    refine lv_iconst (v := 1) hx hb dL_law_2552 (by decide) ?_
    refine lv_iadd hx hb dL_law_2553 ?_
    replace hf := ckiE hf
    obtain ⟨h39, hf⟩ := hf
    refine va_sld hx hb hX hbl hbA hS h39 dL_law_2554 ?_
    refine lv_aload_n hx hb dL_law_2555 rfl (lv_at hl 6 rfl) ?_
    refine lv_iload hx hb dL_law_2556 (lv_at hl 1 rfl) ?_
    refine lv_iconst (v := 2) hx hb dL_law_2558 (by decide) ?_
    refine lv_iadd hx hb dL_law_2559 ?_
    replace hf := ckiE hf
    obtain ⟨h40, hf⟩ := hf
    refine va_sld hx hb hX hbl hbA hS h40 dL_law_2560 ?_
    refine lv_if_eq (tgt := 2568) hx hb dL_law_2561 (by decide) (fun c41 => ?_) (fun c41 => ?_)
    · replace hf := ifT c41 hf
      refine lv_iconst (v := 0) hx hb dL_law_2568 (by decide) ?_
      replace hf := obE hf
      obtain ⟨z42, hz42, hf⟩ := hf
      obtain ⟨r44, S43⟩ := z42
      replace hf := ltE (ltE hf r44 rfl) S43 rfl
      refine x_callV (As := [.int (xs (Int32.toNatClampNeg (i + 1))), .int 0]) (rest := []) (o := (some (.int r44))) (S1 := S43) hC hl.1 hW hS hGs hA t2 rfl (show vwCl[10]? = some (RX11, TX11, 30) ∧ 10 < 11 from ⟨rfl, by decide⟩) (c_X11_setHold l g ad n K H.size F S36 o2 (xs (Int32.toNatClampNeg (i + 1))) ((0 : Int32)) t2 r44 S43 hz42) (cwV 2 hts gL_law_X11_setHold rfl rfl rfl (by decide +kernel) ⟨Nat.le_trans (Nat.le_of_ble_eq_true rfl) hRf, Nat.le_trans (Nat.le_of_ble_eq_true rfl) hRl⟩) rfl rfl (Nat.le_of_ble_eq_true rfl) dL_law_2569 ⟨by omega, by omega⟩ (fun H locs hPz42 hW hS => ?_)
      refine W.eq (g2 := F0 m 2572 ls [.int r44]) rfl ?_
      refine lv_istore (lv' := [(7, .int r44), (6, .int r37), (5, .int i), (4, .ref (ad o4)), (3, .ref (ad o3)), (2, .ref (ad o2)), (1, .ref (ad o1)), (0, .ref b)]) hx hb dL_law_2572 hl (by decide) rfl (fun ls hl => ?_)
      refine lv_aload_n hx hb dL_law_2574 rfl (lv_at hl 5 rfl) ?_
      replace hf := obE hf
      obtain ⟨z46, hz46, hf⟩ := hf
      obtain ⟨r48, S47⟩ := z46
      replace hf := ltE (ltE hf r48 rfl) S47 rfl
      refine x_callV (As := []) (rest := []) (o := (some (.int r48))) (S1 := S47) hC hl.1 hW hS hGs hA t2 rfl (show vwCl[10]? = some (RX11, TX11, 30) ∧ 10 < 11 from ⟨rfl, by decide⟩) (c_X11_thrown l g ad n K H.size F S43 o2 t2 r48 S47 hz46) (cwV 0 hts gL_law_X11_thrown rfl rfl rfl (by decide +kernel) ⟨Nat.le_trans (Nat.le_of_ble_eq_true rfl) hRf, Nat.le_trans (Nat.le_of_ble_eq_true rfl) hRl⟩) rfl rfl (Nat.le_of_ble_eq_true rfl) dL_law_2575 ⟨by omega, by omega⟩ (fun H locs hPz46 hW hS => ?_)
      refine W.eq (g2 := F0 m 2578 ls [.int r48]) rfl ?_
      refine lv_iload hx hb dL_law_2578 (lv_at hl 1 rfl) ?_
      refine lv_icmp_eq (tgt := 2585) hx hb dL_law_2580 (by decide) (fun c50 => ?_) (fun c50 => ?_)
      · replace hf := ifT c50 hf
        refine lv_iload hx hb dL_law_2585 (lv_at hl 1 rfl) ?_
        refine lv_if_ne (tgt := 2602) hx hb dL_law_2587 (by decide) (fun c51 => ?_) (fun c51 => ?_)
        · replace hf := ifT c51 hf
          refine lv_goto (tgt := 3297) hx hb dL_law_2602 (by decide) ?_
          obtain ⟨e1, e2⟩ := so2 hf
          subst e1
          subst e2
          refine W.widen (k := cells + 20) (n := slots + 8189) (by omega) (by omega) ?_
          exact kk ad K _ _ ls Ag.rf hW hS (lv_sub hl [2, 3, 4, 5, 6, 7] rfl)
        · replace hf := ifF (fun q => q c51) hf
          refine lv_aload_n hx hb dL_law_2590 rfl (lv_at hl 4 rfl) ?_
          refine lv_iconst (v := 0) hx hb dL_law_2591 (by decide) ?_
          replace hf := ckiE hf
          obtain ⟨h52, hf⟩ := hf
          refine x_lald hC hW t3 rfl rfl h52 dL_law_2592 ?_
          refine lv_iload hx hb dL_law_2593 (lv_at hl 0 rfl) ?_
          refine lv_i2l (v := r44.toInt64) hx hb dL_law_2595 rfl ?_
          refine W.lcmp hx hb dL_law_2596 ?_
          refine lv_if_eq (tgt := 2602) hx hb dL_law_2597 (by decide) (fun c53 => ?_) (fun c53 => ?_)
          · replace hf := ifT c53 hf
            refine lv_goto (tgt := 3297) hx hb dL_law_2602 (by decide) ?_
            obtain ⟨e1, e2⟩ := so2 hf
            subst e1
            subst e2
            refine W.widen (k := cells + 20) (n := slots + 8189) (by omega) (by omega) ?_
            exact kk ad K _ _ ls Ag.rf hW hS (lv_sub hl [2, 3, 4, 5, 6, 7] rfl)
          · replace hf := ifF c53 hf
            refine lv_iconst (v := 0) hx hb dL_law_2600 (by decide) ?_
            cases hf
      · replace hf := ifF c50 hf
        refine lv_iconst (v := 0) hx hb dL_law_2583 (by decide) ?_
        cases hf
    · replace hf := ifF c41 hf
      refine lv_iconst (v := 1) hx hb dL_law_2564 (by decide) ?_
      refine lv_goto (tgt := 2569) hx hb dL_law_2565 (by decide) ?_
      replace hf := obE hf
      obtain ⟨z54, hz54, hf⟩ := hf
      obtain ⟨r56, S55⟩ := z54
      replace hf := ltE (ltE hf r56 rfl) S55 rfl
      refine x_callV (As := [.int (xs (Int32.toNatClampNeg (i + 1))), .int 1]) (rest := []) (o := (some (.int r56))) (S1 := S55) hC hl.1 hW hS hGs hA t2 rfl (show vwCl[10]? = some (RX11, TX11, 30) ∧ 10 < 11 from ⟨rfl, by decide⟩) (c_X11_setHold l g ad n K H.size F S36 o2 (xs (Int32.toNatClampNeg (i + 1))) ((1 : Int32)) t2 r56 S55 hz54) (cwV 2 hts gL_law_X11_setHold rfl rfl rfl (by decide +kernel) ⟨Nat.le_trans (Nat.le_of_ble_eq_true rfl) hRf, Nat.le_trans (Nat.le_of_ble_eq_true rfl) hRl⟩) rfl rfl (Nat.le_of_ble_eq_true rfl) dL_law_2569 ⟨by omega, by omega⟩ (fun H locs hPz54 hW hS => ?_)
      refine W.eq (g2 := F0 m 2572 ls [.int r56]) rfl ?_
      refine lv_istore (lv' := [(7, .int r56), (6, .int r37), (5, .int i), (4, .ref (ad o4)), (3, .ref (ad o3)), (2, .ref (ad o2)), (1, .ref (ad o1)), (0, .ref b)]) hx hb dL_law_2572 hl (by decide) rfl (fun ls hl => ?_)
      refine lv_aload_n hx hb dL_law_2574 rfl (lv_at hl 5 rfl) ?_
      replace hf := obE hf
      obtain ⟨z58, hz58, hf⟩ := hf
      obtain ⟨r60, S59⟩ := z58
      replace hf := ltE (ltE hf r60 rfl) S59 rfl
      refine x_callV (As := []) (rest := []) (o := (some (.int r60))) (S1 := S59) hC hl.1 hW hS hGs hA t2 rfl (show vwCl[10]? = some (RX11, TX11, 30) ∧ 10 < 11 from ⟨rfl, by decide⟩) (c_X11_thrown l g ad n K H.size F S55 o2 t2 r60 S59 hz58) (cwV 0 hts gL_law_X11_thrown rfl rfl rfl (by decide +kernel) ⟨Nat.le_trans (Nat.le_of_ble_eq_true rfl) hRf, Nat.le_trans (Nat.le_of_ble_eq_true rfl) hRl⟩) rfl rfl (Nat.le_of_ble_eq_true rfl) dL_law_2575 ⟨by omega, by omega⟩ (fun H locs hPz58 hW hS => ?_)
      refine W.eq (g2 := F0 m 2578 ls [.int r60]) rfl ?_
      refine lv_iload hx hb dL_law_2578 (lv_at hl 1 rfl) ?_
      refine lv_icmp_eq (tgt := 2585) hx hb dL_law_2580 (by decide) (fun c62 => ?_) (fun c62 => ?_)
      · replace hf := ifT c62 hf
        refine lv_iload hx hb dL_law_2585 (lv_at hl 1 rfl) ?_
        refine lv_if_ne (tgt := 2602) hx hb dL_law_2587 (by decide) (fun c63 => ?_) (fun c63 => ?_)
        · replace hf := ifT c63 hf
          refine lv_goto (tgt := 3297) hx hb dL_law_2602 (by decide) ?_
          obtain ⟨e1, e2⟩ := so2 hf
          subst e1
          subst e2
          refine W.widen (k := cells + 20) (n := slots + 8189) (by omega) (by omega) ?_
          exact kk ad K _ _ ls Ag.rf hW hS (lv_sub hl [2, 3, 4, 5, 6, 7] rfl)
        · replace hf := ifF (fun q => q c63) hf
          refine lv_aload_n hx hb dL_law_2590 rfl (lv_at hl 4 rfl) ?_
          refine lv_iconst (v := 0) hx hb dL_law_2591 (by decide) ?_
          replace hf := ckiE hf
          obtain ⟨h64, hf⟩ := hf
          refine x_lald hC hW t3 rfl rfl h64 dL_law_2592 ?_
          refine lv_iload hx hb dL_law_2593 (lv_at hl 0 rfl) ?_
          refine lv_i2l (v := r56.toInt64) hx hb dL_law_2595 rfl ?_
          refine W.lcmp hx hb dL_law_2596 ?_
          refine lv_if_eq (tgt := 2602) hx hb dL_law_2597 (by decide) (fun c65 => ?_) (fun c65 => ?_)
          · replace hf := ifT c65 hf
            refine lv_goto (tgt := 3297) hx hb dL_law_2602 (by decide) ?_
            obtain ⟨e1, e2⟩ := so2 hf
            subst e1
            subst e2
            refine W.widen (k := cells + 20) (n := slots + 8189) (by omega) (by omega) ?_
            exact kk ad K _ _ ls Ag.rf hW hS (lv_sub hl [2, 3, 4, 5, 6, 7] rfl)
          · replace hf := ifF c65 hf
            refine lv_iconst (v := 0) hx hb dL_law_2600 (by decide) ?_
            cases hf
      · replace hf := ifF c62 hf
        refine lv_iconst (v := 0) hx hb dL_law_2583 (by decide) ?_
        cases hf
set_option maxHeartbeats 4000000 in
set_option maxRecDepth 100000 in
theorem c_law44 {p : Program} {e : Env} {R : Room} {s : State} {m : MethodId} {below : List Frame} {meth : Method} {c : Code} {Q : State → Prop} {b L : Nat} {xs : Nat → Int32} {H : Heap} {locs : List Loc} {ls : Array Slot} {cells slots : Nat} (l : Launch) (hfl : l.stackTraces = false) (g : GP) (ad : Nat → Nat) (n : Nat) (K : Nat → Nat) (F : Nat) (S0 : St) (o1 o2 o3 o4 : Nat) (i : Int32) (hC : Cx g p s m #[.ref b] c cL_law RL lw_tbl 9) (hX : va_X b L xs s s.heap) (hbl : b < s.heap.size) (hGs : GF g (fun q : Nat => s.heap.size ≤ q) s s.heap) (hW : Wb g ad n K S0 (fun q : Nat => s.heap.size ≤ q) H) (hS : va_S (fun q : Nat => s.heap.size ≤ q) s.heap H locs) (t1 : o1 < n ∧ K o1 = 9) (t2 : o2 < n ∧ K o2 = 10) (t3 : o3 < n ∧ K o3 = 13) (t4 : o4 < n ∧ K o4 = 17) (hl : lv_has ls 9 [(5, .int i), (4, .ref (ad o4)), (3, .ref (ad o3)), (2, .ref (ad o2)), (1, .ref (ad o1)), (0, .ref b)]) (hRf : 13 ≤ R.frames) (hRl : 280 ≤ R.locals) (hRc : cells + 20 ≤ R.cells) (hRs : slots + 8189 ≤ R.slots) (S9 : St) (n9 : Nat) (hf : f_law44 F xs L S0 n o1 o2 o3 o4 i = some (S9, n9))
    (kk : ∀ (ad9 K9 : Nat → Nat) (H1 : Heap) (locs1 : List Loc) (ls1 : Array Slot), Ag ad K n ad9 K9 n9 → Wb g ad9 n9 K9 S9 (fun q : Nat => s.heap.size ≤ q) H1 → va_S (fun q : Nat => s.heap.size ≤ q) s.heap H1 locs1 → lv_has ls1 9 [(5, .int i), (4, .ref (ad9 o4)), (3, .ref (ad9 o3)), (2, .ref (ad9 o2)), (1, .ref (ad9 o1)), (0, .ref b)] → W p l e R s m #[.ref b] below meth c H1 locs1 (cells + 20) (slots + 8189) Q (F0 m 3297 ls1 [])) :
    W p l e R s m #[.ref b] below meth c H locs cells slots Q (F0 m 2605 ls []) := by
  have hx := hC.1
  have hb := hC.2.1
  have hml := hC.2.2.1
  have hown : s.vm.findClass RL = some m.cls := hC.2.2.2.1
  have hts := hC.2.2.2.2.1
  have hK := hC.2.2.2.2.2
  have hA : ∀ q : Nat, s.heap.size ≤ q → (fun q : Nat => s.heap.size ≤ q) q := fun _ h => h
  have hbA : ¬ (fun q : Nat => s.heap.size ≤ q) b := Nat.not_le.mpr hbl
  unfold f_law44 at hf
  refine lv_aload_n hx hb dL_law_2605 rfl (lv_at hl 4 rfl) ?_
  refine lv_aload_n hx hb dL_law_2606 rfl (lv_at hl 5 rfl) ?_
  refine lv_iload hx hb dL_law_2607 (lv_at hl 0 rfl) ?_
  refine lv_iconst (v := 1) hx hb dL_law_2609 (by decide) ?_
  refine lv_iadd hx hb dL_law_2610 ?_
  replace hf := ckiE hf
  obtain ⟨h1, hf⟩ := hf
  refine va_sld hx hb hX hbl hbA hS h1 dL_law_2611 ?_
  refine lv_aload_n hx hb dL_law_2612 rfl (lv_at hl 2 rfl) ?_
  replace hf := obE hf
  obtain ⟨z2, hz2, hf⟩ := hf
  obtain ⟨r4, S3⟩ := z2
  replace hf := ltE (ltE hf r4 rfl) S3 rfl
  refine x_callSWc (As := [.ref (ad o1), .int (xs (Int32.toNatClampNeg (i + 1))), .ref (ad o3)]) (rest := []) (o := (some (.int r4))) (S1 := S3) hC hl.1 hW hS hGs hA (c_L_heldOnlyBy l hfl g ad n K H.size F S0 o1 (xs (Int32.toNatClampNeg (i + 1))) o3 t1 t3 r4 S3 hz2) (vx_cwSW (hh := [(0, 9, 12, 31)]) 3 hts gL_law_L_heldOnlyBy rfl rfl rfl (by decide +kernel) ⟨Nat.le_trans (Nat.le_of_ble_eq_true rfl) hRf, Nat.le_trans (Nat.le_of_ble_eq_true rfl) hRl⟩) rfl rfl (Nat.le_of_ble_eq_true rfl) dL_law_2613 ⟨by omega, by omega⟩ (fun H locs hPz2 hW hS => ?_)
  refine W.widen (k := cells + 1) (n := slots + 6) (by omega) (by omega) ?_
  refine W.eq (g2 := F0 m 2616 ls [.int r4]) rfl ?_
  refine lv_istore (lv' := [(6, .int r4), (5, .int i), (4, .ref (ad o4)), (3, .ref (ad o3)), (2, .ref (ad o2)), (1, .ref (ad o1)), (0, .ref b)]) hx hb dL_law_2616 hl (by decide) rfl (fun ls hl => ?_)
  refine lv_aload_n hx hb dL_law_2618 rfl (lv_at hl 4 rfl) ?_
  refine lv_aload_n hx hb dL_law_2619 rfl (lv_at hl 6 rfl) ?_
  refine lv_iload hx hb dL_law_2620 (lv_at hl 1 rfl) ?_
  refine lv_iconst (v := 1) hx hb dL_law_2622 (by decide) ?_
  refine lv_iadd hx hb dL_law_2623 ?_
  replace hf := ckiE hf
  obtain ⟨h6, hf⟩ := hf
  refine va_sld hx hb hX hbl hbA hS h6 dL_law_2624 ?_
  replace hf := obE hf
  obtain ⟨z7, hz7, hf⟩ := hf
  obtain ⟨r9, S8⟩ := z7
  replace hf := ltE (ltE hf r9 rfl) S8 rfl
  refine x_callV (As := [.int (xs (Int32.toNatClampNeg (i + 1)))]) (rest := []) (o := (some (.int r9))) (S1 := S8) hC hl.1 hW hS hGs hA t2 rfl (show vwCl[10]? = some (RX11, TX11, 30) ∧ 10 < 11 from ⟨rfl, by decide⟩) (c_X11_heldOnlyBy l g ad n K H.size F S3 o2 (xs (Int32.toNatClampNeg (i + 1))) t2 r9 S8 hz7) (cwV 1 hts gL_law_X11_heldOnlyBy rfl rfl rfl (by decide +kernel) ⟨Nat.le_trans (Nat.le_of_ble_eq_true rfl) hRf, Nat.le_trans (Nat.le_of_ble_eq_true rfl) hRl⟩) rfl rfl (Nat.le_of_ble_eq_true rfl) dL_law_2625 ⟨by omega, by omega⟩ (fun H locs hPz7 hW hS => ?_)
  refine W.eq (g2 := F0 m 2628 ls [.int r9]) rfl ?_
  refine lv_istore (lv' := [(7, .int r9), (6, .int r4), (5, .int i), (4, .ref (ad o4)), (3, .ref (ad o3)), (2, .ref (ad o2)), (1, .ref (ad o1)), (0, .ref b)]) hx hb dL_law_2628 hl (by decide) rfl (fun ls hl => ?_)
  refine lv_aload_n hx hb dL_law_2630 rfl (lv_at hl 5 rfl) ?_
  replace hf := obE hf
  obtain ⟨z11, hz11, hf⟩ := hf
  obtain ⟨r13, S12⟩ := z11
  replace hf := ltE (ltE hf r13 rfl) S12 rfl
  refine x_callV (As := []) (rest := []) (o := (some (.int r13))) (S1 := S12) hC hl.1 hW hS hGs hA t2 rfl (show vwCl[10]? = some (RX11, TX11, 30) ∧ 10 < 11 from ⟨rfl, by decide⟩) (c_X11_thrown l g ad n K H.size F S8 o2 t2 r13 S12 hz11) (cwV 0 hts gL_law_X11_thrown rfl rfl rfl (by decide +kernel) ⟨Nat.le_trans (Nat.le_of_ble_eq_true rfl) hRf, Nat.le_trans (Nat.le_of_ble_eq_true rfl) hRl⟩) rfl rfl (Nat.le_of_ble_eq_true rfl) dL_law_2631 ⟨by omega, by omega⟩ (fun H locs hPz11 hW hS => ?_)
  refine W.eq (g2 := F0 m 2634 ls [.int r13]) rfl ?_
  refine lv_iload hx hb dL_law_2634 (lv_at hl 1 rfl) ?_
  refine lv_icmp_eq (tgt := 2641) hx hb dL_law_2636 (by decide) (fun c15 => ?_) (fun c15 => ?_)
  · replace hf := ifT c15 hf
    refine lv_iload hx hb dL_law_2641 (lv_at hl 1 rfl) ?_
    refine lv_if_ne (tgt := 2658) hx hb dL_law_2643 (by decide) (fun c16 => ?_) (fun c16 => ?_)
    · replace hf := ifT c16 hf
      refine lv_goto (tgt := 3297) hx hb dL_law_2658 (by decide) ?_
      obtain ⟨e1, e2⟩ := so2 hf
      subst e1
      subst e2
      refine W.widen (k := cells + 20) (n := slots + 8189) (by omega) (by omega) ?_
      exact kk ad K _ _ ls Ag.rf hW hS (lv_sub hl [2, 3, 4, 5, 6, 7] rfl)
    · replace hf := ifF (fun q => q c16) hf
      refine lv_aload_n hx hb dL_law_2646 rfl (lv_at hl 4 rfl) ?_
      refine lv_iconst (v := 0) hx hb dL_law_2647 (by decide) ?_
      replace hf := ckiE hf
      obtain ⟨h17, hf⟩ := hf
      refine x_lald hC hW t3 rfl rfl h17 dL_law_2648 ?_
      refine lv_iload hx hb dL_law_2649 (lv_at hl 0 rfl) ?_
      refine lv_i2l (v := r9.toInt64) hx hb dL_law_2651 rfl ?_
      refine W.lcmp hx hb dL_law_2652 ?_
      refine lv_if_eq (tgt := 2658) hx hb dL_law_2653 (by decide) (fun c18 => ?_) (fun c18 => ?_)
      · replace hf := ifT c18 hf
        refine lv_goto (tgt := 3297) hx hb dL_law_2658 (by decide) ?_
        obtain ⟨e1, e2⟩ := so2 hf
        subst e1
        subst e2
        refine W.widen (k := cells + 20) (n := slots + 8189) (by omega) (by omega) ?_
        exact kk ad K _ _ ls Ag.rf hW hS (lv_sub hl [2, 3, 4, 5, 6, 7] rfl)
      · replace hf := ifF c18 hf
        refine lv_iconst (v := 0) hx hb dL_law_2656 (by decide) ?_
        cases hf
  · replace hf := ifF c15 hf
    refine lv_iconst (v := 0) hx hb dL_law_2639 (by decide) ?_
    cases hf
set_option maxHeartbeats 4000000 in
set_option maxRecDepth 100000 in
theorem c_law45 {p : Program} {e : Env} {R : Room} {s : State} {m : MethodId} {below : List Frame} {meth : Method} {c : Code} {Q : State → Prop} {b L : Nat} {xs : Nat → Int32} {H : Heap} {locs : List Loc} {ls : Array Slot} {cells slots : Nat} (l : Launch) (hfl : l.stackTraces = false) (g : GP) (ad : Nat → Nat) (n : Nat) (K : Nat → Nat) (F : Nat) (S0 : St) (o1 o2 o3 o4 : Nat) (i : Int32) (hC : Cx g p s m #[.ref b] c cL_law RL lw_tbl 9) (hX : va_X b L xs s s.heap) (hbl : b < s.heap.size) (hGs : GF g (fun q : Nat => s.heap.size ≤ q) s s.heap) (hW : Wb g ad n K S0 (fun q : Nat => s.heap.size ≤ q) H) (hS : va_S (fun q : Nat => s.heap.size ≤ q) s.heap H locs) (t1 : o1 < n ∧ K o1 = 9) (t2 : o2 < n ∧ K o2 = 10) (t3 : o3 < n ∧ K o3 = 13) (t4 : o4 < n ∧ K o4 = 17) (hl : lv_has ls 9 [(5, .int i), (4, .ref (ad o4)), (3, .ref (ad o3)), (2, .ref (ad o2)), (1, .ref (ad o1)), (0, .ref b)]) (hRf : 13 ≤ R.frames) (hRl : 280 ≤ R.locals) (hRc : cells + 20 ≤ R.cells) (hRs : slots + 8189 ≤ R.slots) (S9 : St) (n9 : Nat) (hf : f_law45 F xs L S0 n o1 o2 o3 o4 i = some (S9, n9))
    (kk : ∀ (ad9 K9 : Nat → Nat) (H1 : Heap) (locs1 : List Loc) (ls1 : Array Slot), Ag ad K n ad9 K9 n9 → Wb g ad9 n9 K9 S9 (fun q : Nat => s.heap.size ≤ q) H1 → va_S (fun q : Nat => s.heap.size ≤ q) s.heap H1 locs1 → lv_has ls1 9 [(5, .int i), (4, .ref (ad9 o4)), (3, .ref (ad9 o3)), (2, .ref (ad9 o2)), (1, .ref (ad9 o1)), (0, .ref b)] → W p l e R s m #[.ref b] below meth c H1 locs1 (cells + 20) (slots + 8189) Q (F0 m 3297 ls1 [])) :
    W p l e R s m #[.ref b] below meth c H locs cells slots Q (F0 m 2661 ls []) := by
  have hx := hC.1
  have hb := hC.2.1
  have hml := hC.2.2.1
  have hown : s.vm.findClass RL = some m.cls := hC.2.2.2.1
  have hts := hC.2.2.2.2.1
  have hK := hC.2.2.2.2.2
  have hA : ∀ q : Nat, s.heap.size ≤ q → (fun q : Nat => s.heap.size ≤ q) q := fun _ h => h
  have hbA : ¬ (fun q : Nat => s.heap.size ≤ q) b := Nat.not_le.mpr hbl
  unfold f_law45 at hf
  refine lv_aload_n hx hb dL_law_2661 rfl (lv_at hl 4 rfl) ?_
  refine lv_aload_n hx hb dL_law_2662 rfl (lv_at hl 5 rfl) ?_
  refine lv_iload hx hb dL_law_2663 (lv_at hl 0 rfl) ?_
  refine lv_iconst (v := 1) hx hb dL_law_2665 (by decide) ?_
  refine lv_iadd hx hb dL_law_2666 ?_
  replace hf := ckiE hf
  obtain ⟨h1, hf⟩ := hf
  refine va_sld hx hb hX hbl hbA hS h1 dL_law_2667 ?_
  refine lv_aload_n hx hb dL_law_2668 rfl (lv_at hl 5 rfl) ?_
  refine lv_iload hx hb dL_law_2669 (lv_at hl 0 rfl) ?_
  refine lv_iconst (v := 2) hx hb dL_law_2671 (by decide) ?_
  refine lv_iadd hx hb dL_law_2672 ?_
  replace hf := ckiE hf
  obtain ⟨h2, hf⟩ := hf
  refine va_sld hx hb hX hbl hbA hS h2 dL_law_2673 ?_
  refine lv_aload_n hx hb dL_law_2674 rfl (lv_at hl 2 rfl) ?_
  replace hf := obE hf
  obtain ⟨z3, hz3, hf⟩ := hf
  obtain ⟨r5, S4⟩ := z3
  replace hf := ltE (ltE hf r5 rfl) S4 rfl
  refine x_callSWc (As := [.ref (ad o1), .int (xs (Int32.toNatClampNeg (i + 1))), .int (xs (Int32.toNatClampNeg (i + 2))), .ref (ad o3)]) (rest := []) (o := (some (.int r5))) (S1 := S4) hC hl.1 hW hS hGs hA (c_L_setQuota l hfl g ad n K H.size F S0 o1 (xs (Int32.toNatClampNeg (i + 1))) (xs (Int32.toNatClampNeg (i + 2))) o3 t1 t3 r5 S4 hz3) (vx_cwSW (hh := [(0, 10, 13, 31), (0, 10, 17, 19)]) 4 hts gL_law_L_setQuota rfl rfl rfl (by decide +kernel) ⟨Nat.le_trans (Nat.le_of_ble_eq_true rfl) hRf, Nat.le_trans (Nat.le_of_ble_eq_true rfl) hRl⟩) rfl rfl (Nat.le_of_ble_eq_true rfl) dL_law_2675 ⟨by omega, by omega⟩ (fun H locs hPz3 hW hS => ?_)
  refine W.widen (k := cells + 2) (n := slots + 12) (by omega) (by omega) ?_
  refine W.eq (g2 := F0 m 2678 ls [.int r5]) rfl ?_
  refine lv_istore (lv' := [(6, .int r5), (5, .int i), (4, .ref (ad o4)), (3, .ref (ad o3)), (2, .ref (ad o2)), (1, .ref (ad o1)), (0, .ref b)]) hx hb dL_law_2678 hl (by decide) rfl (fun ls hl => ?_)
  refine lv_aload_n hx hb dL_law_2680 rfl (lv_at hl 4 rfl) ?_
  refine lv_aload_n hx hb dL_law_2681 rfl (lv_at hl 6 rfl) ?_
  refine lv_iload hx hb dL_law_2682 (lv_at hl 1 rfl) ?_
  refine lv_iconst (v := 1) hx hb dL_law_2684 (by decide) ?_
  refine lv_iadd hx hb dL_law_2685 ?_
  replace hf := ckiE hf
  obtain ⟨h7, hf⟩ := hf
  refine va_sld hx hb hX hbl hbA hS h7 dL_law_2686 ?_
  refine lv_aload_n hx hb dL_law_2687 rfl (lv_at hl 6 rfl) ?_
  refine lv_iload hx hb dL_law_2688 (lv_at hl 1 rfl) ?_
  refine lv_iconst (v := 2) hx hb dL_law_2690 (by decide) ?_
  refine lv_iadd hx hb dL_law_2691 ?_
  replace hf := ckiE hf
  obtain ⟨h8, hf⟩ := hf
  refine va_sld hx hb hX hbl hbA hS h8 dL_law_2692 ?_
  replace hf := obE hf
  obtain ⟨z9, hz9, hf⟩ := hf
  obtain ⟨r11, S10⟩ := z9
  replace hf := ltE (ltE hf r11 rfl) S10 rfl
  refine x_callV (As := [.int (xs (Int32.toNatClampNeg (i + 1))), .int (xs (Int32.toNatClampNeg (i + 2)))]) (rest := []) (o := (some (.int r11))) (S1 := S10) hC hl.1 hW hS hGs hA t2 rfl (show vwCl[10]? = some (RX11, TX11, 30) ∧ 10 < 11 from ⟨rfl, by decide⟩) (c_X11_setQuota l g ad n K H.size F S4 o2 (xs (Int32.toNatClampNeg (i + 1))) (xs (Int32.toNatClampNeg (i + 2))) t2 r11 S10 hz9) (cwV 2 hts gL_law_X11_setQuota rfl rfl rfl (by decide +kernel) ⟨Nat.le_trans (Nat.le_of_ble_eq_true rfl) hRf, Nat.le_trans (Nat.le_of_ble_eq_true rfl) hRl⟩) rfl rfl (Nat.le_of_ble_eq_true rfl) dL_law_2693 ⟨by omega, by omega⟩ (fun H locs hPz9 hW hS => ?_)
  refine W.eq (g2 := F0 m 2696 ls [.int r11]) rfl ?_
  refine lv_istore (lv' := [(7, .int r11), (6, .int r5), (5, .int i), (4, .ref (ad o4)), (3, .ref (ad o3)), (2, .ref (ad o2)), (1, .ref (ad o1)), (0, .ref b)]) hx hb dL_law_2696 hl (by decide) rfl (fun ls hl => ?_)
  refine lv_aload_n hx hb dL_law_2698 rfl (lv_at hl 5 rfl) ?_
  replace hf := obE hf
  obtain ⟨z13, hz13, hf⟩ := hf
  obtain ⟨r15, S14⟩ := z13
  replace hf := ltE (ltE hf r15 rfl) S14 rfl
  refine x_callV (As := []) (rest := []) (o := (some (.int r15))) (S1 := S14) hC hl.1 hW hS hGs hA t2 rfl (show vwCl[10]? = some (RX11, TX11, 30) ∧ 10 < 11 from ⟨rfl, by decide⟩) (c_X11_thrown l g ad n K H.size F S10 o2 t2 r15 S14 hz13) (cwV 0 hts gL_law_X11_thrown rfl rfl rfl (by decide +kernel) ⟨Nat.le_trans (Nat.le_of_ble_eq_true rfl) hRf, Nat.le_trans (Nat.le_of_ble_eq_true rfl) hRl⟩) rfl rfl (Nat.le_of_ble_eq_true rfl) dL_law_2699 ⟨by omega, by omega⟩ (fun H locs hPz13 hW hS => ?_)
  refine W.eq (g2 := F0 m 2702 ls [.int r15]) rfl ?_
  refine lv_iload hx hb dL_law_2702 (lv_at hl 1 rfl) ?_
  refine lv_icmp_eq (tgt := 2709) hx hb dL_law_2704 (by decide) (fun c17 => ?_) (fun c17 => ?_)
  · replace hf := ifT c17 hf
    refine lv_iload hx hb dL_law_2709 (lv_at hl 1 rfl) ?_
    refine lv_if_ne (tgt := 2726) hx hb dL_law_2711 (by decide) (fun c18 => ?_) (fun c18 => ?_)
    · replace hf := ifT c18 hf
      refine lv_goto (tgt := 3297) hx hb dL_law_2726 (by decide) ?_
      obtain ⟨e1, e2⟩ := so2 hf
      subst e1
      subst e2
      refine W.widen (k := cells + 20) (n := slots + 8189) (by omega) (by omega) ?_
      exact kk ad K _ _ ls Ag.rf hW hS (lv_sub hl [2, 3, 4, 5, 6, 7] rfl)
    · replace hf := ifF (fun q => q c18) hf
      refine lv_aload_n hx hb dL_law_2714 rfl (lv_at hl 4 rfl) ?_
      refine lv_iconst (v := 0) hx hb dL_law_2715 (by decide) ?_
      replace hf := ckiE hf
      obtain ⟨h19, hf⟩ := hf
      refine x_lald hC hW t3 rfl rfl h19 dL_law_2716 ?_
      refine lv_iload hx hb dL_law_2717 (lv_at hl 0 rfl) ?_
      refine lv_i2l (v := r11.toInt64) hx hb dL_law_2719 rfl ?_
      refine W.lcmp hx hb dL_law_2720 ?_
      refine lv_if_eq (tgt := 2726) hx hb dL_law_2721 (by decide) (fun c20 => ?_) (fun c20 => ?_)
      · replace hf := ifT c20 hf
        refine lv_goto (tgt := 3297) hx hb dL_law_2726 (by decide) ?_
        obtain ⟨e1, e2⟩ := so2 hf
        subst e1
        subst e2
        refine W.widen (k := cells + 20) (n := slots + 8189) (by omega) (by omega) ?_
        exact kk ad K _ _ ls Ag.rf hW hS (lv_sub hl [2, 3, 4, 5, 6, 7] rfl)
      · replace hf := ifF c20 hf
        refine lv_iconst (v := 0) hx hb dL_law_2724 (by decide) ?_
        cases hf
  · replace hf := ifF c17 hf
    refine lv_iconst (v := 0) hx hb dL_law_2707 (by decide) ?_
    cases hf
set_option maxHeartbeats 4000000 in
set_option maxRecDepth 100000 in
theorem c_law46 {p : Program} {e : Env} {R : Room} {s : State} {m : MethodId} {below : List Frame} {meth : Method} {c : Code} {Q : State → Prop} {b L : Nat} {xs : Nat → Int32} {H : Heap} {locs : List Loc} {ls : Array Slot} {cells slots : Nat} (l : Launch) (hfl : l.stackTraces = false) (g : GP) (ad : Nat → Nat) (n : Nat) (K : Nat → Nat) (F : Nat) (S0 : St) (o1 o2 o3 o4 : Nat) (i : Int32) (hC : Cx g p s m #[.ref b] c cL_law RL lw_tbl 9) (hX : va_X b L xs s s.heap) (hbl : b < s.heap.size) (hGs : GF g (fun q : Nat => s.heap.size ≤ q) s s.heap) (hW : Wb g ad n K S0 (fun q : Nat => s.heap.size ≤ q) H) (hS : va_S (fun q : Nat => s.heap.size ≤ q) s.heap H locs) (t1 : o1 < n ∧ K o1 = 9) (t2 : o2 < n ∧ K o2 = 10) (t3 : o3 < n ∧ K o3 = 13) (t4 : o4 < n ∧ K o4 = 17) (hl : lv_has ls 9 [(5, .int i), (4, .ref (ad o4)), (3, .ref (ad o3)), (2, .ref (ad o2)), (1, .ref (ad o1)), (0, .ref b)]) (hRf : 13 ≤ R.frames) (hRl : 280 ≤ R.locals) (hRc : cells + 20 ≤ R.cells) (hRs : slots + 8189 ≤ R.slots) (S9 : St) (n9 : Nat) (hf : f_law46 F xs L S0 n o1 o2 o3 o4 i = some (S9, n9))
    (kk : ∀ (ad9 K9 : Nat → Nat) (H1 : Heap) (locs1 : List Loc) (ls1 : Array Slot), Ag ad K n ad9 K9 n9 → Wb g ad9 n9 K9 S9 (fun q : Nat => s.heap.size ≤ q) H1 → va_S (fun q : Nat => s.heap.size ≤ q) s.heap H1 locs1 → lv_has ls1 9 [(5, .int i), (4, .ref (ad9 o4)), (3, .ref (ad9 o3)), (2, .ref (ad9 o2)), (1, .ref (ad9 o1)), (0, .ref b)] → W p l e R s m #[.ref b] below meth c H1 locs1 (cells + 20) (slots + 8189) Q (F0 m 3297 ls1 [])) :
    W p l e R s m #[.ref b] below meth c H locs cells slots Q (F0 m 2729 ls []) := by
  have hx := hC.1
  have hb := hC.2.1
  have hml := hC.2.2.1
  have hown : s.vm.findClass RL = some m.cls := hC.2.2.2.1
  have hts := hC.2.2.2.2.1
  have hK := hC.2.2.2.2.2
  have hA : ∀ q : Nat, s.heap.size ≤ q → (fun q : Nat => s.heap.size ≤ q) q := fun _ h => h
  have hbA : ¬ (fun q : Nat => s.heap.size ≤ q) b := Nat.not_le.mpr hbl
  unfold f_law46 at hf
  refine lv_aload_n hx hb dL_law_2729 rfl (lv_at hl 4 rfl) ?_
  refine lv_aload_n hx hb dL_law_2730 rfl (lv_at hl 5 rfl) ?_
  refine lv_iload hx hb dL_law_2731 (lv_at hl 0 rfl) ?_
  refine lv_iconst (v := 1) hx hb dL_law_2733 (by decide) ?_
  refine lv_iadd hx hb dL_law_2734 ?_
  replace hf := ckiE hf
  obtain ⟨h1, hf⟩ := hf
  refine va_sld hx hb hX hbl hbA hS h1 dL_law_2735 ?_
  refine lv_aload_n hx hb dL_law_2736 rfl (lv_at hl 2 rfl) ?_
  replace hf := obE hf
  obtain ⟨z2, hz2, hf⟩ := hf
  obtain ⟨r4, S3⟩ := z2
  replace hf := ltE (ltE hf r4 rfl) S3 rfl
  refine x_callSWc (As := [.ref (ad o1), .int (xs (Int32.toNatClampNeg (i + 1))), .ref (ad o3)]) (rest := []) (o := (some (.int r4))) (S1 := S3) hC hl.1 hW hS hGs hA (c_L_advance l hfl g ad n K H.size F S0 o1 (xs (Int32.toNatClampNeg (i + 1))) o3 t1 t3 r4 S3 hz2) (vx_cwSW (hh := [(0, 9, 12, 19), (0, 9, 15, 13)]) 3 hts gL_law_L_advance rfl rfl rfl (by decide +kernel) ⟨Nat.le_trans (Nat.le_of_ble_eq_true rfl) hRf, Nat.le_trans (Nat.le_of_ble_eq_true rfl) hRl⟩) rfl rfl (Nat.le_of_ble_eq_true rfl) dL_law_2737 ⟨by omega, by omega⟩ (fun H locs hPz2 hW hS => ?_)
  refine W.widen (k := cells + 1) (n := slots + 6) (by omega) (by omega) ?_
  refine W.eq (g2 := F0 m 2740 ls [.int r4]) rfl ?_
  refine lv_istore (lv' := [(6, .int r4), (5, .int i), (4, .ref (ad o4)), (3, .ref (ad o3)), (2, .ref (ad o2)), (1, .ref (ad o1)), (0, .ref b)]) hx hb dL_law_2740 hl (by decide) rfl (fun ls hl => ?_)
  refine lv_aload_n hx hb dL_law_2742 rfl (lv_at hl 4 rfl) ?_
  refine lv_aload_n hx hb dL_law_2743 rfl (lv_at hl 6 rfl) ?_
  refine lv_iload hx hb dL_law_2744 (lv_at hl 1 rfl) ?_
  refine lv_iconst (v := 1) hx hb dL_law_2746 (by decide) ?_
  refine lv_iadd hx hb dL_law_2747 ?_
  replace hf := ckiE hf
  obtain ⟨h6, hf⟩ := hf
  refine va_sld hx hb hX hbl hbA hS h6 dL_law_2748 ?_
  replace hf := obE hf
  obtain ⟨z7, hz7, hf⟩ := hf
  obtain ⟨r9, S8⟩ := z7
  replace hf := ltE (ltE hf r9 rfl) S8 rfl
  refine x_callV (As := [.int (xs (Int32.toNatClampNeg (i + 1)))]) (rest := []) (o := (some (.int r9))) (S1 := S8) hC hl.1 hW hS hGs hA t2 rfl (show vwCl[10]? = some (RX11, TX11, 30) ∧ 10 < 11 from ⟨rfl, by decide⟩) (c_X11_advance l g ad n K H.size F S3 o2 (xs (Int32.toNatClampNeg (i + 1))) t2 r9 S8 hz7) (cwV 1 hts gL_law_X11_advance rfl rfl rfl (by decide +kernel) ⟨Nat.le_trans (Nat.le_of_ble_eq_true rfl) hRf, Nat.le_trans (Nat.le_of_ble_eq_true rfl) hRl⟩) rfl rfl (Nat.le_of_ble_eq_true rfl) dL_law_2749 ⟨by omega, by omega⟩ (fun H locs hPz7 hW hS => ?_)
  refine W.eq (g2 := F0 m 2752 ls [.int r9]) rfl ?_
  refine lv_istore (lv' := [(7, .int r9), (6, .int r4), (5, .int i), (4, .ref (ad o4)), (3, .ref (ad o3)), (2, .ref (ad o2)), (1, .ref (ad o1)), (0, .ref b)]) hx hb dL_law_2752 hl (by decide) rfl (fun ls hl => ?_)
  refine lv_aload_n hx hb dL_law_2754 rfl (lv_at hl 5 rfl) ?_
  replace hf := obE hf
  obtain ⟨z11, hz11, hf⟩ := hf
  obtain ⟨r13, S12⟩ := z11
  replace hf := ltE (ltE hf r13 rfl) S12 rfl
  refine x_callV (As := []) (rest := []) (o := (some (.int r13))) (S1 := S12) hC hl.1 hW hS hGs hA t2 rfl (show vwCl[10]? = some (RX11, TX11, 30) ∧ 10 < 11 from ⟨rfl, by decide⟩) (c_X11_thrown l g ad n K H.size F S8 o2 t2 r13 S12 hz11) (cwV 0 hts gL_law_X11_thrown rfl rfl rfl (by decide +kernel) ⟨Nat.le_trans (Nat.le_of_ble_eq_true rfl) hRf, Nat.le_trans (Nat.le_of_ble_eq_true rfl) hRl⟩) rfl rfl (Nat.le_of_ble_eq_true rfl) dL_law_2755 ⟨by omega, by omega⟩ (fun H locs hPz11 hW hS => ?_)
  refine W.eq (g2 := F0 m 2758 ls [.int r13]) rfl ?_
  refine lv_iload hx hb dL_law_2758 (lv_at hl 1 rfl) ?_
  refine lv_icmp_eq (tgt := 2765) hx hb dL_law_2760 (by decide) (fun c15 => ?_) (fun c15 => ?_)
  · replace hf := ifT c15 hf
    refine lv_iload hx hb dL_law_2765 (lv_at hl 1 rfl) ?_
    refine lv_if_ne (tgt := 2782) hx hb dL_law_2767 (by decide) (fun c16 => ?_) (fun c16 => ?_)
    · replace hf := ifT c16 hf
      refine lv_goto (tgt := 3297) hx hb dL_law_2782 (by decide) ?_
      obtain ⟨e1, e2⟩ := so2 hf
      subst e1
      subst e2
      refine W.widen (k := cells + 20) (n := slots + 8189) (by omega) (by omega) ?_
      exact kk ad K _ _ ls Ag.rf hW hS (lv_sub hl [2, 3, 4, 5, 6, 7] rfl)
    · replace hf := ifF (fun q => q c16) hf
      refine lv_aload_n hx hb dL_law_2770 rfl (lv_at hl 4 rfl) ?_
      refine lv_iconst (v := 0) hx hb dL_law_2771 (by decide) ?_
      replace hf := ckiE hf
      obtain ⟨h17, hf⟩ := hf
      refine x_lald hC hW t3 rfl rfl h17 dL_law_2772 ?_
      refine lv_iload hx hb dL_law_2773 (lv_at hl 0 rfl) ?_
      refine lv_i2l (v := r9.toInt64) hx hb dL_law_2775 rfl ?_
      refine W.lcmp hx hb dL_law_2776 ?_
      refine lv_if_eq (tgt := 2782) hx hb dL_law_2777 (by decide) (fun c18 => ?_) (fun c18 => ?_)
      · replace hf := ifT c18 hf
        refine lv_goto (tgt := 3297) hx hb dL_law_2782 (by decide) ?_
        obtain ⟨e1, e2⟩ := so2 hf
        subst e1
        subst e2
        refine W.widen (k := cells + 20) (n := slots + 8189) (by omega) (by omega) ?_
        exact kk ad K _ _ ls Ag.rf hW hS (lv_sub hl [2, 3, 4, 5, 6, 7] rfl)
      · replace hf := ifF c18 hf
        refine lv_iconst (v := 0) hx hb dL_law_2780 (by decide) ?_
        cases hf
  · replace hf := ifF c15 hf
    refine lv_iconst (v := 0) hx hb dL_law_2763 (by decide) ?_
    cases hf
set_option maxHeartbeats 4000000 in
set_option maxRecDepth 100000 in
theorem c_law47 {p : Program} {e : Env} {R : Room} {s : State} {m : MethodId} {below : List Frame} {meth : Method} {c : Code} {Q : State → Prop} {b L : Nat} {xs : Nat → Int32} {H : Heap} {locs : List Loc} {ls : Array Slot} {cells slots : Nat} (l : Launch) (hfl : l.stackTraces = false) (g : GP) (ad : Nat → Nat) (n : Nat) (K : Nat → Nat) (F : Nat) (S0 : St) (o1 o2 o3 o4 : Nat) (i : Int32) (hC : Cx g p s m #[.ref b] c cL_law RL lw_tbl 9) (hX : va_X b L xs s s.heap) (hbl : b < s.heap.size) (hGs : GF g (fun q : Nat => s.heap.size ≤ q) s s.heap) (hW : Wb g ad n K S0 (fun q : Nat => s.heap.size ≤ q) H) (hS : va_S (fun q : Nat => s.heap.size ≤ q) s.heap H locs) (t1 : o1 < n ∧ K o1 = 9) (t2 : o2 < n ∧ K o2 = 10) (t3 : o3 < n ∧ K o3 = 13) (t4 : o4 < n ∧ K o4 = 17) (hl : lv_has ls 9 [(5, .int i), (4, .ref (ad o4)), (3, .ref (ad o3)), (2, .ref (ad o2)), (1, .ref (ad o1)), (0, .ref b)]) (hRf : 13 ≤ R.frames) (hRl : 280 ≤ R.locals) (hRc : cells + 20 ≤ R.cells) (hRs : slots + 8189 ≤ R.slots) (S9 : St) (n9 : Nat) (hf : f_law47 F xs L S0 n o1 o2 o3 o4 i = some (S9, n9))
    (kk : ∀ (ad9 K9 : Nat → Nat) (H1 : Heap) (locs1 : List Loc) (ls1 : Array Slot), Ag ad K n ad9 K9 n9 → Wb g ad9 n9 K9 S9 (fun q : Nat => s.heap.size ≤ q) H1 → va_S (fun q : Nat => s.heap.size ≤ q) s.heap H1 locs1 → lv_has ls1 9 [(5, .int i), (4, .ref (ad9 o4)), (3, .ref (ad9 o3)), (2, .ref (ad9 o2)), (1, .ref (ad9 o1)), (0, .ref b)] → W p l e R s m #[.ref b] below meth c H1 locs1 (cells + 20) (slots + 8189) Q (F0 m 3297 ls1 [])) :
    W p l e R s m #[.ref b] below meth c H locs cells slots Q (F0 m 2785 ls []) := by
  have hx := hC.1
  have hb := hC.2.1
  have hml := hC.2.2.1
  have hown : s.vm.findClass RL = some m.cls := hC.2.2.2.1
  have hts := hC.2.2.2.2.1
  have hK := hC.2.2.2.2.2
  have hA : ∀ q : Nat, s.heap.size ≤ q → (fun q : Nat => s.heap.size ≤ q) q := fun _ h => h
  have hbA : ¬ (fun q : Nat => s.heap.size ≤ q) b := Nat.not_le.mpr hbl
  unfold f_law47 at hf
  refine lv_aload_n hx hb dL_law_2785 rfl (lv_at hl 4 rfl) ?_
  replace hf := obE hf
  obtain ⟨z1, hz1, hf⟩ := hf
  obtain ⟨r3, S2⟩ := z1
  replace hf := ltE (ltE hf r3 rfl) S2 rfl
  refine x_callV (As := []) (rest := []) (o := (some (.int r3))) (S1 := S2) hC hl.1 hW hS hGs hA t1 rfl (show vwCl[9]? = some (RX10, TX10, 11) ∧ 9 < 11 from ⟨rfl, by decide⟩) (c_X10_nextRound l g ad n K H.size F S0 o1 t1 r3 S2 hz1) (cwV 0 hts gL_law_X10_nextRound rfl rfl rfl (by decide +kernel) ⟨Nat.le_trans (Nat.le_of_ble_eq_true rfl) hRf, Nat.le_trans (Nat.le_of_ble_eq_true rfl) hRl⟩) rfl rfl (Nat.le_of_ble_eq_true rfl) dL_law_2786 ⟨by omega, by omega⟩ (fun H locs hPz1 hW hS => ?_)
  refine W.eq (g2 := F0 m 2789 ls [.int r3]) rfl ?_
  refine lv_aload_n hx hb dL_law_2789 rfl (lv_at hl 3 rfl) ?_
  replace hf := obE hf
  obtain ⟨z5, hz5, hf⟩ := hf
  obtain ⟨r7, S6⟩ := z5
  replace hf := ltE (ltE hf r7 rfl) S6 rfl
  refine x_callV (As := []) (rest := [.int r3]) (o := (some (.int r7))) (S1 := S6) hC hl.1 hW hS hGs hA t2 rfl (show vwCl[10]? = some (RX11, TX11, 30) ∧ 10 < 11 from ⟨rfl, by decide⟩) (c_X11_nextRound l g ad n K H.size F S2 o2 t2 r7 S6 hz5) (cwV 0 hts gL_law_X11_nextRound rfl rfl rfl (by decide +kernel) ⟨Nat.le_trans (Nat.le_of_ble_eq_true rfl) hRf, Nat.le_trans (Nat.le_of_ble_eq_true rfl) hRl⟩) rfl rfl (Nat.le_of_ble_eq_true rfl) dL_law_2790 ⟨by omega, by omega⟩ (fun H locs hPz5 hW hS => ?_)
  refine W.eq (g2 := F0 m 2793 ls [.int r7, .int r3]) rfl ?_
  refine lv_icmp_eq (tgt := 3297) hx hb dL_law_2793 (by decide) (fun c9 => ?_) (fun c9 => ?_)
  · replace hf := ifT c9 hf
    obtain ⟨e1, e2⟩ := so2 hf
    subst e1
    subst e2
    refine W.widen (k := cells + 20) (n := slots + 8189) (by omega) (by omega) ?_
    exact kk ad K _ _ ls Ag.rf hW hS (lv_sub hl [0, 1, 2, 3, 4, 5] rfl)
  · replace hf := ifF c9 hf
    refine lv_iconst (v := 0) hx hb dL_law_2796 (by decide) ?_
    cases hf
set_option maxHeartbeats 4000000 in
set_option maxRecDepth 100000 in
theorem c_law48 {p : Program} {e : Env} {R : Room} {s : State} {m : MethodId} {below : List Frame} {meth : Method} {c : Code} {Q : State → Prop} {b L : Nat} {xs : Nat → Int32} {H : Heap} {locs : List Loc} {ls : Array Slot} {cells slots : Nat} (l : Launch) (hfl : l.stackTraces = false) (g : GP) (ad : Nat → Nat) (n : Nat) (K : Nat → Nat) (F : Nat) (S0 : St) (o1 o2 o3 o4 : Nat) (i : Int32) (hC : Cx g p s m #[.ref b] c cL_law RL lw_tbl 9) (hX : va_X b L xs s s.heap) (hbl : b < s.heap.size) (hGs : GF g (fun q : Nat => s.heap.size ≤ q) s s.heap) (hW : Wb g ad n K S0 (fun q : Nat => s.heap.size ≤ q) H) (hS : va_S (fun q : Nat => s.heap.size ≤ q) s.heap H locs) (t1 : o1 < n ∧ K o1 = 9) (t2 : o2 < n ∧ K o2 = 10) (t3 : o3 < n ∧ K o3 = 13) (t4 : o4 < n ∧ K o4 = 17) (hl : lv_has ls 9 [(5, .int i), (4, .ref (ad o4)), (3, .ref (ad o3)), (2, .ref (ad o2)), (1, .ref (ad o1)), (0, .ref b)]) (hRf : 13 ≤ R.frames) (hRl : 280 ≤ R.locals) (hRc : cells + 20 ≤ R.cells) (hRs : slots + 8189 ≤ R.slots) (S9 : St) (n9 : Nat) (hf : f_law48 F xs L S0 n o1 o2 o3 o4 i = some (S9, n9))
    (kk : ∀ (ad9 K9 : Nat → Nat) (H1 : Heap) (locs1 : List Loc) (ls1 : Array Slot), Ag ad K n ad9 K9 n9 → Wb g ad9 n9 K9 S9 (fun q : Nat => s.heap.size ≤ q) H1 → va_S (fun q : Nat => s.heap.size ≤ q) s.heap H1 locs1 → lv_has ls1 9 [(5, .int i), (4, .ref (ad9 o4)), (3, .ref (ad9 o3)), (2, .ref (ad9 o2)), (1, .ref (ad9 o1)), (0, .ref b)] → W p l e R s m #[.ref b] below meth c H1 locs1 (cells + 20) (slots + 8189) Q (F0 m 3297 ls1 [])) :
    W p l e R s m #[.ref b] below meth c H locs cells slots Q (F0 m 2798 ls []) := by
  have hx := hC.1
  have hb := hC.2.1
  have hml := hC.2.2.1
  have hown : s.vm.findClass RL = some m.cls := hC.2.2.2.1
  have hts := hC.2.2.2.2.1
  have hK := hC.2.2.2.2.2
  have hA : ∀ q : Nat, s.heap.size ≤ q → (fun q : Nat => s.heap.size ≤ q) q := fun _ h => h
  have hbA : ¬ (fun q : Nat => s.heap.size ≤ q) b := Nat.not_le.mpr hbl
  unfold f_law48 at hf
  refine lv_aload_n hx hb dL_law_2798 rfl (lv_at hl 4 rfl) ?_
  refine lv_aload_n hx hb dL_law_2799 rfl (lv_at hl 5 rfl) ?_
  refine lv_iload hx hb dL_law_2800 (lv_at hl 0 rfl) ?_
  refine lv_iconst (v := 1) hx hb dL_law_2802 (by decide) ?_
  refine lv_iadd hx hb dL_law_2803 ?_
  replace hf := ckiE hf
  obtain ⟨h1, hf⟩ := hf
  refine va_sld hx hb hX hbl hbA hS h1 dL_law_2804 ?_
  refine lv_aload_n hx hb dL_law_2805 rfl (lv_at hl 2 rfl) ?_
  replace hf := obE hf
  obtain ⟨z2, hz2, hf⟩ := hf
  obtain ⟨r4, S3⟩ := z2
  replace hf := ltE (ltE hf r4 rfl) S3 rfl
  refine x_callSWc (As := [.ref (ad o1), .int (xs (Int32.toNatClampNeg (i + 1))), .ref (ad o3)]) (rest := []) (o := (some (.int r4))) (S1 := S3) hC hl.1 hW hS hGs hA (c_L_removedOn l hfl g ad n K H.size F S0 o1 (xs (Int32.toNatClampNeg (i + 1))) o3 t1 t3 r4 S3 hz2) (vx_cwSW (hh := [(0, 9, 12, 31)]) 3 hts gL_law_L_removedOn rfl rfl rfl (by decide +kernel) ⟨Nat.le_trans (Nat.le_of_ble_eq_true rfl) hRf, Nat.le_trans (Nat.le_of_ble_eq_true rfl) hRl⟩) rfl rfl (Nat.le_of_ble_eq_true rfl) dL_law_2806 ⟨by omega, by omega⟩ (fun H locs hPz2 hW hS => ?_)
  refine W.widen (k := cells + 1) (n := slots + 6) (by omega) (by omega) ?_
  refine W.eq (g2 := F0 m 2809 ls [.int r4]) rfl ?_
  refine lv_istore (lv' := [(6, .int r4), (5, .int i), (4, .ref (ad o4)), (3, .ref (ad o3)), (2, .ref (ad o2)), (1, .ref (ad o1)), (0, .ref b)]) hx hb dL_law_2809 hl (by decide) rfl (fun ls hl => ?_)
  refine lv_aload_n hx hb dL_law_2811 rfl (lv_at hl 4 rfl) ?_
  refine lv_aload_n hx hb dL_law_2812 rfl (lv_at hl 6 rfl) ?_
  refine lv_iload hx hb dL_law_2813 (lv_at hl 1 rfl) ?_
  refine lv_iconst (v := 1) hx hb dL_law_2815 (by decide) ?_
  refine lv_iadd hx hb dL_law_2816 ?_
  replace hf := ckiE hf
  obtain ⟨h6, hf⟩ := hf
  refine va_sld hx hb hX hbl hbA hS h6 dL_law_2817 ?_
  replace hf := obE hf
  obtain ⟨z7, hz7, hf⟩ := hf
  obtain ⟨r9, S8⟩ := z7
  replace hf := ltE (ltE hf r9 rfl) S8 rfl
  refine x_callV (As := [.int (xs (Int32.toNatClampNeg (i + 1)))]) (rest := []) (o := (some (.int r9))) (S1 := S8) hC hl.1 hW hS hGs hA t2 rfl (show vwCl[10]? = some (RX11, TX11, 30) ∧ 10 < 11 from ⟨rfl, by decide⟩) (c_X11_removedOn l g ad n K H.size F S3 o2 (xs (Int32.toNatClampNeg (i + 1))) t2 r9 S8 hz7) (cwV 1 hts gL_law_X11_removedOn rfl rfl rfl (by decide +kernel) ⟨Nat.le_trans (Nat.le_of_ble_eq_true rfl) hRf, Nat.le_trans (Nat.le_of_ble_eq_true rfl) hRl⟩) rfl rfl (Nat.le_of_ble_eq_true rfl) dL_law_2818 ⟨by omega, by omega⟩ (fun H locs hPz7 hW hS => ?_)
  refine W.eq (g2 := F0 m 2821 ls [.int r9]) rfl ?_
  refine lv_istore (lv' := [(7, .int r9), (6, .int r4), (5, .int i), (4, .ref (ad o4)), (3, .ref (ad o3)), (2, .ref (ad o2)), (1, .ref (ad o1)), (0, .ref b)]) hx hb dL_law_2821 hl (by decide) rfl (fun ls hl => ?_)
  refine lv_aload_n hx hb dL_law_2823 rfl (lv_at hl 5 rfl) ?_
  replace hf := obE hf
  obtain ⟨z11, hz11, hf⟩ := hf
  obtain ⟨r13, S12⟩ := z11
  replace hf := ltE (ltE hf r13 rfl) S12 rfl
  refine x_callV (As := []) (rest := []) (o := (some (.int r13))) (S1 := S12) hC hl.1 hW hS hGs hA t2 rfl (show vwCl[10]? = some (RX11, TX11, 30) ∧ 10 < 11 from ⟨rfl, by decide⟩) (c_X11_thrown l g ad n K H.size F S8 o2 t2 r13 S12 hz11) (cwV 0 hts gL_law_X11_thrown rfl rfl rfl (by decide +kernel) ⟨Nat.le_trans (Nat.le_of_ble_eq_true rfl) hRf, Nat.le_trans (Nat.le_of_ble_eq_true rfl) hRl⟩) rfl rfl (Nat.le_of_ble_eq_true rfl) dL_law_2824 ⟨by omega, by omega⟩ (fun H locs hPz11 hW hS => ?_)
  refine W.eq (g2 := F0 m 2827 ls [.int r13]) rfl ?_
  refine lv_iload hx hb dL_law_2827 (lv_at hl 1 rfl) ?_
  refine lv_icmp_eq (tgt := 2834) hx hb dL_law_2829 (by decide) (fun c15 => ?_) (fun c15 => ?_)
  · replace hf := ifT c15 hf
    refine lv_iload hx hb dL_law_2834 (lv_at hl 1 rfl) ?_
    refine lv_if_ne (tgt := 2851) hx hb dL_law_2836 (by decide) (fun c16 => ?_) (fun c16 => ?_)
    · replace hf := ifT c16 hf
      refine lv_goto (tgt := 3297) hx hb dL_law_2851 (by decide) ?_
      obtain ⟨e1, e2⟩ := so2 hf
      subst e1
      subst e2
      refine W.widen (k := cells + 20) (n := slots + 8189) (by omega) (by omega) ?_
      exact kk ad K _ _ ls Ag.rf hW hS (lv_sub hl [2, 3, 4, 5, 6, 7] rfl)
    · replace hf := ifF (fun q => q c16) hf
      refine lv_aload_n hx hb dL_law_2839 rfl (lv_at hl 4 rfl) ?_
      refine lv_iconst (v := 0) hx hb dL_law_2840 (by decide) ?_
      replace hf := ckiE hf
      obtain ⟨h17, hf⟩ := hf
      refine x_lald hC hW t3 rfl rfl h17 dL_law_2841 ?_
      refine lv_iload hx hb dL_law_2842 (lv_at hl 0 rfl) ?_
      refine lv_i2l (v := r9.toInt64) hx hb dL_law_2844 rfl ?_
      refine W.lcmp hx hb dL_law_2845 ?_
      refine lv_if_eq (tgt := 2851) hx hb dL_law_2846 (by decide) (fun c18 => ?_) (fun c18 => ?_)
      · replace hf := ifT c18 hf
        refine lv_goto (tgt := 3297) hx hb dL_law_2851 (by decide) ?_
        obtain ⟨e1, e2⟩ := so2 hf
        subst e1
        subst e2
        refine W.widen (k := cells + 20) (n := slots + 8189) (by omega) (by omega) ?_
        exact kk ad K _ _ ls Ag.rf hW hS (lv_sub hl [2, 3, 4, 5, 6, 7] rfl)
      · replace hf := ifF c18 hf
        refine lv_iconst (v := 0) hx hb dL_law_2849 (by decide) ?_
        cases hf
  · replace hf := ifF c15 hf
    refine lv_iconst (v := 0) hx hb dL_law_2832 (by decide) ?_
    cases hf
