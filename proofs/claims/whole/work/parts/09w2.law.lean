set_option maxHeartbeats 4000000 in
set_option maxRecDepth 100000 in
theorem c_law19 {p : Program} {e : Env} {R : Room} {s : State} {m : MethodId} {below : List Frame} {meth : Method} {c : Code} {Q : State → Prop} {b L : Nat} {xs : Nat → Int32} {H : Heap} {locs : List Loc} {ls : Array Slot} {cells slots : Nat} (l : Launch) (hfl : l.stackTraces = false) (g : GP) (ad : Nat → Nat) (n : Nat) (K : Nat → Nat) (F : Nat) (S0 : St) (o1 o2 o3 o4 : Nat) (i : Int32) (hC : Cx g p s m #[.ref b] c cL_law RL lw_tbl 9) (hX : va_X b L xs s s.heap) (hbl : b < s.heap.size) (hGs : GF g (fun q : Nat => s.heap.size ≤ q) s s.heap) (hW : Wb g ad n K S0 (fun q : Nat => s.heap.size ≤ q) H) (hS : va_S (fun q : Nat => s.heap.size ≤ q) s.heap H locs) (t1 : o1 < n ∧ K o1 = 9) (t2 : o2 < n ∧ K o2 = 10) (t3 : o3 < n ∧ K o3 = 13) (t4 : o4 < n ∧ K o4 = 17) (hl : lv_has ls 9 [(5, .int i), (4, .ref (ad o4)), (3, .ref (ad o3)), (2, .ref (ad o2)), (1, .ref (ad o1)), (0, .ref b)]) (hRf : 13 ≤ R.frames) (hRl : 280 ≤ R.locals) (hRc : cells + 20 ≤ R.cells) (hRs : slots + 8189 ≤ R.slots) (S9 : St) (n9 : Nat) (hf : f_law19 F xs L S0 n o1 o2 o3 o4 i = some (S9, n9))
    (kk : ∀ (ad9 K9 : Nat → Nat) (H1 : Heap) (locs1 : List Loc) (ls1 : Array Slot), Ag ad K n ad9 K9 n9 → Wb g ad9 n9 K9 S9 (fun q : Nat => s.heap.size ≤ q) H1 → va_S (fun q : Nat => s.heap.size ≤ q) s.heap H1 locs1 → lv_has ls1 9 [(5, .int i), (4, .ref (ad9 o4)), (3, .ref (ad9 o3)), (2, .ref (ad9 o2)), (1, .ref (ad9 o1)), (0, .ref b)] → W p l e R s m #[.ref b] below meth c H1 locs1 (cells + 20) (slots + 8189) Q (F0 m 3297 ls1 [])) :
    W p l e R s m #[.ref b] below meth c H locs cells slots Q (F0 m 1202 ls []) := by
  have hx := hC.1
  have hb := hC.2.1
  have hml := hC.2.2.1
  have hown : s.vm.findClass RL = some m.cls := hC.2.2.2.1
  have hts := hC.2.2.2.2.1
  have hK := hC.2.2.2.2.2
  have hA : ∀ q : Nat, s.heap.size ≤ q → (fun q : Nat => s.heap.size ≤ q) q := fun _ h => h
  have hbA : ¬ (fun q : Nat => s.heap.size ≤ q) b := Nat.not_le.mpr hbl
  unfold f_law19 at hf
  refine lv_aload_n hx hb dL_law_1202 rfl (lv_at hl 4 rfl) ?_
  refine lv_aload_n hx hb dL_law_1203 rfl (lv_at hl 5 rfl) ?_
  refine lv_iload hx hb dL_law_1204 (lv_at hl 0 rfl) ?_
  refine lv_iconst (v := 1) hx hb dL_law_1206 (by decide) ?_
  refine lv_iadd hx hb dL_law_1207 ?_
  replace hf := ckiE hf
  obtain ⟨h1, hf⟩ := hf
  refine va_sld hx hb hX hbl hbA hS h1 dL_law_1208 ?_
  refine lv_aload_n hx hb dL_law_1209 rfl (lv_at hl 5 rfl) ?_
  refine lv_iload hx hb dL_law_1210 (lv_at hl 0 rfl) ?_
  refine lv_iconst (v := 2) hx hb dL_law_1212 (by decide) ?_
  refine lv_iadd hx hb dL_law_1213 ?_
  replace hf := ckiE hf
  obtain ⟨h2, hf⟩ := hf
  refine va_sld hx hb hX hbl hbA hS h2 dL_law_1214 ?_
  refine lv_aload_n hx hb dL_law_1215 rfl (lv_at hl 2 rfl) ?_
  replace hf := obE hf
  obtain ⟨z3, hz3, hf⟩ := hf
  obtain ⟨r5, S4⟩ := z3
  replace hf := ltE (ltE hf r5 rfl) S4 rfl
  refine x_callSWc (As := [.ref (ad o1), .int (xs (Int32.toNatClampNeg (i + 1))), .int (xs (Int32.toNatClampNeg (i + 2))), .ref (ad o3)]) (rest := []) (o := (some (.int r5))) (S1 := S4) hC hl.1 hW hS hGs hA (c_L_classOf l hfl g ad n K H.size F S0 o1 (xs (Int32.toNatClampNeg (i + 1))) (xs (Int32.toNatClampNeg (i + 2))) o3 t1 t3 r5 S4 hz3) (vx_cwSW (hh := [(0, 10, 13, 31)]) 4 hts gL_law_L_classOf rfl rfl rfl (by decide +kernel) ⟨Nat.le_trans (Nat.le_of_ble_eq_true rfl) hRf, Nat.le_trans (Nat.le_of_ble_eq_true rfl) hRl⟩) rfl rfl (Nat.le_of_ble_eq_true rfl) dL_law_1216 ⟨by omega, by omega⟩ (fun H locs hPz3 hW hS => ?_)
  refine W.widen (k := cells + 1) (n := slots + 6) (by omega) (by omega) ?_
  refine W.eq (g2 := F0 m 1219 ls [.int r5]) rfl ?_
  refine lv_istore (lv' := [(6, .int r5), (5, .int i), (4, .ref (ad o4)), (3, .ref (ad o3)), (2, .ref (ad o2)), (1, .ref (ad o1)), (0, .ref b)]) hx hb dL_law_1219 hl (by decide) rfl (fun ls hl => ?_)
  refine lv_aload_n hx hb dL_law_1221 rfl (lv_at hl 4 rfl) ?_
  refine lv_aload_n hx hb dL_law_1222 rfl (lv_at hl 6 rfl) ?_
  refine lv_iload hx hb dL_law_1223 (lv_at hl 1 rfl) ?_
  refine lv_iconst (v := 1) hx hb dL_law_1225 (by decide) ?_
  refine lv_iadd hx hb dL_law_1226 ?_
  replace hf := ckiE hf
  obtain ⟨h7, hf⟩ := hf
  refine va_sld hx hb hX hbl hbA hS h7 dL_law_1227 ?_
  refine lv_aload_n hx hb dL_law_1228 rfl (lv_at hl 6 rfl) ?_
  refine lv_iload hx hb dL_law_1229 (lv_at hl 1 rfl) ?_
  refine lv_iconst (v := 2) hx hb dL_law_1231 (by decide) ?_
  refine lv_iadd hx hb dL_law_1232 ?_
  replace hf := ckiE hf
  obtain ⟨h8, hf⟩ := hf
  refine va_sld hx hb hX hbl hbA hS h8 dL_law_1233 ?_
  replace hf := obE hf
  obtain ⟨z9, hz9, hf⟩ := hf
  obtain ⟨r11, S10⟩ := z9
  replace hf := ltE (ltE hf r11 rfl) S10 rfl
  refine x_callV (As := [.int (xs (Int32.toNatClampNeg (i + 1))), .int (xs (Int32.toNatClampNeg (i + 2)))]) (rest := []) (o := (some (.int r11))) (S1 := S10) hC hl.1 hW hS hGs hA t2 rfl (show vwCl[10]? = some (RX11, TX11, 30) ∧ 10 < 11 from ⟨rfl, by decide⟩) (c_X11_classOf l g ad n K H.size F S4 o2 (xs (Int32.toNatClampNeg (i + 1))) (xs (Int32.toNatClampNeg (i + 2))) t2 r11 S10 hz9) (cwV 2 hts gL_law_X11_classOf rfl rfl rfl (by decide +kernel) ⟨Nat.le_trans (Nat.le_of_ble_eq_true rfl) hRf, Nat.le_trans (Nat.le_of_ble_eq_true rfl) hRl⟩) rfl rfl (Nat.le_of_ble_eq_true rfl) dL_law_1234 ⟨by omega, by omega⟩ (fun H locs hPz9 hW hS => ?_)
  refine W.eq (g2 := F0 m 1237 ls [.int r11]) rfl ?_
  refine lv_istore (lv' := [(7, .int r11), (6, .int r5), (5, .int i), (4, .ref (ad o4)), (3, .ref (ad o3)), (2, .ref (ad o2)), (1, .ref (ad o1)), (0, .ref b)]) hx hb dL_law_1237 hl (by decide) rfl (fun ls hl => ?_)
  refine lv_aload_n hx hb dL_law_1239 rfl (lv_at hl 5 rfl) ?_
  replace hf := obE hf
  obtain ⟨z13, hz13, hf⟩ := hf
  obtain ⟨r15, S14⟩ := z13
  replace hf := ltE (ltE hf r15 rfl) S14 rfl
  refine x_callV (As := []) (rest := []) (o := (some (.int r15))) (S1 := S14) hC hl.1 hW hS hGs hA t2 rfl (show vwCl[10]? = some (RX11, TX11, 30) ∧ 10 < 11 from ⟨rfl, by decide⟩) (c_X11_thrown l g ad n K H.size F S10 o2 t2 r15 S14 hz13) (cwV 0 hts gL_law_X11_thrown rfl rfl rfl (by decide +kernel) ⟨Nat.le_trans (Nat.le_of_ble_eq_true rfl) hRf, Nat.le_trans (Nat.le_of_ble_eq_true rfl) hRl⟩) rfl rfl (Nat.le_of_ble_eq_true rfl) dL_law_1240 ⟨by omega, by omega⟩ (fun H locs hPz13 hW hS => ?_)
  refine W.eq (g2 := F0 m 1243 ls [.int r15]) rfl ?_
  refine lv_iload hx hb dL_law_1243 (lv_at hl 1 rfl) ?_
  refine lv_icmp_eq (tgt := 1250) hx hb dL_law_1245 (by decide) (fun c17 => ?_) (fun c17 => ?_)
  · replace hf := ifT c17 hf
    refine lv_iload hx hb dL_law_1250 (lv_at hl 1 rfl) ?_
    refine lv_if_ne (tgt := 1267) hx hb dL_law_1252 (by decide) (fun c18 => ?_) (fun c18 => ?_)
    · replace hf := ifT c18 hf
      refine lv_goto (tgt := 3297) hx hb dL_law_1267 (by decide) ?_
      obtain ⟨e1, e2⟩ := so2 hf
      subst e1
      subst e2
      refine W.widen (k := cells + 20) (n := slots + 8189) (by omega) (by omega) ?_
      exact kk ad K _ _ ls Ag.rf hW hS (lv_sub hl [2, 3, 4, 5, 6, 7] rfl)
    · replace hf := ifF (fun q => q c18) hf
      refine lv_aload_n hx hb dL_law_1255 rfl (lv_at hl 4 rfl) ?_
      refine lv_iconst (v := 0) hx hb dL_law_1256 (by decide) ?_
      replace hf := ckiE hf
      obtain ⟨h19, hf⟩ := hf
      refine x_lald hC hW t3 rfl rfl h19 dL_law_1257 ?_
      refine lv_iload hx hb dL_law_1258 (lv_at hl 0 rfl) ?_
      refine lv_i2l (v := r11.toInt64) hx hb dL_law_1260 rfl ?_
      refine W.lcmp hx hb dL_law_1261 ?_
      refine lv_if_eq (tgt := 1267) hx hb dL_law_1262 (by decide) (fun c20 => ?_) (fun c20 => ?_)
      · replace hf := ifT c20 hf
        refine lv_goto (tgt := 3297) hx hb dL_law_1267 (by decide) ?_
        obtain ⟨e1, e2⟩ := so2 hf
        subst e1
        subst e2
        refine W.widen (k := cells + 20) (n := slots + 8189) (by omega) (by omega) ?_
        exact kk ad K _ _ ls Ag.rf hW hS (lv_sub hl [2, 3, 4, 5, 6, 7] rfl)
      · replace hf := ifF c20 hf
        refine lv_iconst (v := 0) hx hb dL_law_1265 (by decide) ?_
        cases hf
  · replace hf := ifF c17 hf
    refine lv_iconst (v := 0) hx hb dL_law_1248 (by decide) ?_
    cases hf
set_option maxHeartbeats 4000000 in
set_option maxRecDepth 100000 in
theorem c_law20 {p : Program} {e : Env} {R : Room} {s : State} {m : MethodId} {below : List Frame} {meth : Method} {c : Code} {Q : State → Prop} {b L : Nat} {xs : Nat → Int32} {H : Heap} {locs : List Loc} {ls : Array Slot} {cells slots : Nat} (l : Launch) (hfl : l.stackTraces = false) (g : GP) (ad : Nat → Nat) (n : Nat) (K : Nat → Nat) (F : Nat) (S0 : St) (o1 o2 o3 o4 : Nat) (i : Int32) (hC : Cx g p s m #[.ref b] c cL_law RL lw_tbl 9) (hX : va_X b L xs s s.heap) (hbl : b < s.heap.size) (hGs : GF g (fun q : Nat => s.heap.size ≤ q) s s.heap) (hW : Wb g ad n K S0 (fun q : Nat => s.heap.size ≤ q) H) (hS : va_S (fun q : Nat => s.heap.size ≤ q) s.heap H locs) (t1 : o1 < n ∧ K o1 = 9) (t2 : o2 < n ∧ K o2 = 10) (t3 : o3 < n ∧ K o3 = 13) (t4 : o4 < n ∧ K o4 = 17) (hl : lv_has ls 9 [(5, .int i), (4, .ref (ad o4)), (3, .ref (ad o3)), (2, .ref (ad o2)), (1, .ref (ad o1)), (0, .ref b)]) (hRf : 13 ≤ R.frames) (hRl : 280 ≤ R.locals) (hRc : cells + 20 ≤ R.cells) (hRs : slots + 8189 ≤ R.slots) (S9 : St) (n9 : Nat) (hf : f_law20 F xs L S0 n o1 o2 o3 o4 i = some (S9, n9))
    (kk : ∀ (ad9 K9 : Nat → Nat) (H1 : Heap) (locs1 : List Loc) (ls1 : Array Slot), Ag ad K n ad9 K9 n9 → Wb g ad9 n9 K9 S9 (fun q : Nat => s.heap.size ≤ q) H1 → va_S (fun q : Nat => s.heap.size ≤ q) s.heap H1 locs1 → lv_has ls1 9 [(5, .int i), (4, .ref (ad9 o4)), (3, .ref (ad9 o3)), (2, .ref (ad9 o2)), (1, .ref (ad9 o1)), (0, .ref b)] → W p l e R s m #[.ref b] below meth c H1 locs1 (cells + 20) (slots + 8189) Q (F0 m 3297 ls1 [])) :
    W p l e R s m #[.ref b] below meth c H locs cells slots Q (F0 m 1270 ls []) := by
  have hx := hC.1
  have hb := hC.2.1
  have hml := hC.2.2.1
  have hown : s.vm.findClass RL = some m.cls := hC.2.2.2.1
  have hts := hC.2.2.2.2.1
  have hK := hC.2.2.2.2.2
  have hA : ∀ q : Nat, s.heap.size ≤ q → (fun q : Nat => s.heap.size ≤ q) q := fun _ h => h
  have hbA : ¬ (fun q : Nat => s.heap.size ≤ q) b := Nat.not_le.mpr hbl
  unfold f_law20 at hf
  refine lv_aload_n hx hb dL_law_1270 rfl (lv_at hl 4 rfl) ?_
  refine lv_aload_n hx hb dL_law_1271 rfl (lv_at hl 5 rfl) ?_
  refine lv_iload hx hb dL_law_1272 (lv_at hl 0 rfl) ?_
  refine lv_iconst (v := 1) hx hb dL_law_1274 (by decide) ?_
  refine lv_iadd hx hb dL_law_1275 ?_
  replace hf := ckiE hf
  obtain ⟨h1, hf⟩ := hf
  refine va_sld hx hb hX hbl hbA hS h1 dL_law_1276 ?_
  refine lv_aload_n hx hb dL_law_1277 rfl (lv_at hl 5 rfl) ?_
  refine lv_iload hx hb dL_law_1278 (lv_at hl 0 rfl) ?_
  refine lv_iconst (v := 2) hx hb dL_law_1280 (by decide) ?_
  refine lv_iadd hx hb dL_law_1281 ?_
  replace hf := ckiE hf
  obtain ⟨h2, hf⟩ := hf
  refine va_sld hx hb hX hbl hbA hS h2 dL_law_1282 ?_
  refine lv_aload_n hx hb dL_law_1283 rfl (lv_at hl 2 rfl) ?_
  replace hf := obE hf
  obtain ⟨z3, hz3, hf⟩ := hf
  obtain ⟨r5, S4⟩ := z3
  replace hf := ltE (ltE hf r5 rfl) S4 rfl
  refine x_callSWc (As := [.ref (ad o1), .int (xs (Int32.toNatClampNeg (i + 1))), .int (xs (Int32.toNatClampNeg (i + 2))), .ref (ad o3)]) (rest := []) (o := (some (.int r5))) (S1 := S4) hC hl.1 hW hS hGs hA (c_L_enteredOn l hfl g ad n K H.size F S0 o1 (xs (Int32.toNatClampNeg (i + 1))) (xs (Int32.toNatClampNeg (i + 2))) o3 t1 t3 r5 S4 hz3) (vx_cwSW (hh := [(0, 10, 13, 31)]) 4 hts gL_law_L_enteredOn rfl rfl rfl (by decide +kernel) ⟨Nat.le_trans (Nat.le_of_ble_eq_true rfl) hRf, Nat.le_trans (Nat.le_of_ble_eq_true rfl) hRl⟩) rfl rfl (Nat.le_of_ble_eq_true rfl) dL_law_1284 ⟨by omega, by omega⟩ (fun H locs hPz3 hW hS => ?_)
  refine W.widen (k := cells + 1) (n := slots + 6) (by omega) (by omega) ?_
  refine W.eq (g2 := F0 m 1287 ls [.int r5]) rfl ?_
  refine lv_istore (lv' := [(6, .int r5), (5, .int i), (4, .ref (ad o4)), (3, .ref (ad o3)), (2, .ref (ad o2)), (1, .ref (ad o1)), (0, .ref b)]) hx hb dL_law_1287 hl (by decide) rfl (fun ls hl => ?_)
  refine lv_aload_n hx hb dL_law_1289 rfl (lv_at hl 4 rfl) ?_
  refine lv_aload_n hx hb dL_law_1290 rfl (lv_at hl 6 rfl) ?_
  refine lv_iload hx hb dL_law_1291 (lv_at hl 1 rfl) ?_
  refine lv_iconst (v := 1) hx hb dL_law_1293 (by decide) ?_
  refine lv_iadd hx hb dL_law_1294 ?_
  replace hf := ckiE hf
  obtain ⟨h7, hf⟩ := hf
  refine va_sld hx hb hX hbl hbA hS h7 dL_law_1295 ?_
  refine lv_aload_n hx hb dL_law_1296 rfl (lv_at hl 6 rfl) ?_
  refine lv_iload hx hb dL_law_1297 (lv_at hl 1 rfl) ?_
  refine lv_iconst (v := 2) hx hb dL_law_1299 (by decide) ?_
  refine lv_iadd hx hb dL_law_1300 ?_
  replace hf := ckiE hf
  obtain ⟨h8, hf⟩ := hf
  refine va_sld hx hb hX hbl hbA hS h8 dL_law_1301 ?_
  replace hf := obE hf
  obtain ⟨z9, hz9, hf⟩ := hf
  obtain ⟨r11, S10⟩ := z9
  replace hf := ltE (ltE hf r11 rfl) S10 rfl
  refine x_callV (As := [.int (xs (Int32.toNatClampNeg (i + 1))), .int (xs (Int32.toNatClampNeg (i + 2)))]) (rest := []) (o := (some (.int r11))) (S1 := S10) hC hl.1 hW hS hGs hA t2 rfl (show vwCl[10]? = some (RX11, TX11, 30) ∧ 10 < 11 from ⟨rfl, by decide⟩) (c_X11_enteredOn l g ad n K H.size F S4 o2 (xs (Int32.toNatClampNeg (i + 1))) (xs (Int32.toNatClampNeg (i + 2))) t2 r11 S10 hz9) (cwV 2 hts gL_law_X11_enteredOn rfl rfl rfl (by decide +kernel) ⟨Nat.le_trans (Nat.le_of_ble_eq_true rfl) hRf, Nat.le_trans (Nat.le_of_ble_eq_true rfl) hRl⟩) rfl rfl (Nat.le_of_ble_eq_true rfl) dL_law_1302 ⟨by omega, by omega⟩ (fun H locs hPz9 hW hS => ?_)
  refine W.eq (g2 := F0 m 1305 ls [.int r11]) rfl ?_
  refine lv_istore (lv' := [(7, .int r11), (6, .int r5), (5, .int i), (4, .ref (ad o4)), (3, .ref (ad o3)), (2, .ref (ad o2)), (1, .ref (ad o1)), (0, .ref b)]) hx hb dL_law_1305 hl (by decide) rfl (fun ls hl => ?_)
  refine lv_aload_n hx hb dL_law_1307 rfl (lv_at hl 5 rfl) ?_
  replace hf := obE hf
  obtain ⟨z13, hz13, hf⟩ := hf
  obtain ⟨r15, S14⟩ := z13
  replace hf := ltE (ltE hf r15 rfl) S14 rfl
  refine x_callV (As := []) (rest := []) (o := (some (.int r15))) (S1 := S14) hC hl.1 hW hS hGs hA t2 rfl (show vwCl[10]? = some (RX11, TX11, 30) ∧ 10 < 11 from ⟨rfl, by decide⟩) (c_X11_thrown l g ad n K H.size F S10 o2 t2 r15 S14 hz13) (cwV 0 hts gL_law_X11_thrown rfl rfl rfl (by decide +kernel) ⟨Nat.le_trans (Nat.le_of_ble_eq_true rfl) hRf, Nat.le_trans (Nat.le_of_ble_eq_true rfl) hRl⟩) rfl rfl (Nat.le_of_ble_eq_true rfl) dL_law_1308 ⟨by omega, by omega⟩ (fun H locs hPz13 hW hS => ?_)
  refine W.eq (g2 := F0 m 1311 ls [.int r15]) rfl ?_
  refine lv_iload hx hb dL_law_1311 (lv_at hl 1 rfl) ?_
  refine lv_icmp_eq (tgt := 1318) hx hb dL_law_1313 (by decide) (fun c17 => ?_) (fun c17 => ?_)
  · replace hf := ifT c17 hf
    refine lv_iload hx hb dL_law_1318 (lv_at hl 1 rfl) ?_
    refine lv_if_ne (tgt := 1335) hx hb dL_law_1320 (by decide) (fun c18 => ?_) (fun c18 => ?_)
    · replace hf := ifT c18 hf
      refine lv_goto (tgt := 3297) hx hb dL_law_1335 (by decide) ?_
      obtain ⟨e1, e2⟩ := so2 hf
      subst e1
      subst e2
      refine W.widen (k := cells + 20) (n := slots + 8189) (by omega) (by omega) ?_
      exact kk ad K _ _ ls Ag.rf hW hS (lv_sub hl [2, 3, 4, 5, 6, 7] rfl)
    · replace hf := ifF (fun q => q c18) hf
      refine lv_aload_n hx hb dL_law_1323 rfl (lv_at hl 4 rfl) ?_
      refine lv_iconst (v := 0) hx hb dL_law_1324 (by decide) ?_
      replace hf := ckiE hf
      obtain ⟨h19, hf⟩ := hf
      refine x_lald hC hW t3 rfl rfl h19 dL_law_1325 ?_
      refine lv_iload hx hb dL_law_1326 (lv_at hl 0 rfl) ?_
      refine lv_i2l (v := r11.toInt64) hx hb dL_law_1328 rfl ?_
      refine W.lcmp hx hb dL_law_1329 ?_
      refine lv_if_eq (tgt := 1335) hx hb dL_law_1330 (by decide) (fun c20 => ?_) (fun c20 => ?_)
      · replace hf := ifT c20 hf
        refine lv_goto (tgt := 3297) hx hb dL_law_1335 (by decide) ?_
        obtain ⟨e1, e2⟩ := so2 hf
        subst e1
        subst e2
        refine W.widen (k := cells + 20) (n := slots + 8189) (by omega) (by omega) ?_
        exact kk ad K _ _ ls Ag.rf hW hS (lv_sub hl [2, 3, 4, 5, 6, 7] rfl)
      · replace hf := ifF c20 hf
        refine lv_iconst (v := 0) hx hb dL_law_1333 (by decide) ?_
        cases hf
  · replace hf := ifF c17 hf
    refine lv_iconst (v := 0) hx hb dL_law_1316 (by decide) ?_
    cases hf
set_option maxHeartbeats 4000000 in
set_option maxRecDepth 100000 in
theorem c_law21 {p : Program} {e : Env} {R : Room} {s : State} {m : MethodId} {below : List Frame} {meth : Method} {c : Code} {Q : State → Prop} {b L : Nat} {xs : Nat → Int32} {H : Heap} {locs : List Loc} {ls : Array Slot} {cells slots : Nat} (l : Launch) (hfl : l.stackTraces = false) (g : GP) (ad : Nat → Nat) (n : Nat) (K : Nat → Nat) (F : Nat) (S0 : St) (o1 o2 o3 o4 : Nat) (i : Int32) (hC : Cx g p s m #[.ref b] c cL_law RL lw_tbl 9) (hX : va_X b L xs s s.heap) (hbl : b < s.heap.size) (hGs : GF g (fun q : Nat => s.heap.size ≤ q) s s.heap) (hW : Wb g ad n K S0 (fun q : Nat => s.heap.size ≤ q) H) (hS : va_S (fun q : Nat => s.heap.size ≤ q) s.heap H locs) (t1 : o1 < n ∧ K o1 = 9) (t2 : o2 < n ∧ K o2 = 10) (t3 : o3 < n ∧ K o3 = 13) (t4 : o4 < n ∧ K o4 = 17) (hl : lv_has ls 9 [(5, .int i), (4, .ref (ad o4)), (3, .ref (ad o3)), (2, .ref (ad o2)), (1, .ref (ad o1)), (0, .ref b)]) (hRf : 13 ≤ R.frames) (hRl : 280 ≤ R.locals) (hRc : cells + 20 ≤ R.cells) (hRs : slots + 8189 ≤ R.slots) (S9 : St) (n9 : Nat) (hf : f_law21 F xs L S0 n o1 o2 o3 o4 i = some (S9, n9))
    (kk : ∀ (ad9 K9 : Nat → Nat) (H1 : Heap) (locs1 : List Loc) (ls1 : Array Slot), Ag ad K n ad9 K9 n9 → Wb g ad9 n9 K9 S9 (fun q : Nat => s.heap.size ≤ q) H1 → va_S (fun q : Nat => s.heap.size ≤ q) s.heap H1 locs1 → lv_has ls1 9 [(5, .int i), (4, .ref (ad9 o4)), (3, .ref (ad9 o3)), (2, .ref (ad9 o2)), (1, .ref (ad9 o1)), (0, .ref b)] → W p l e R s m #[.ref b] below meth c H1 locs1 (cells + 20) (slots + 8189) Q (F0 m 3297 ls1 [])) :
    W p l e R s m #[.ref b] below meth c H locs cells slots Q (F0 m 1338 ls []) := by
  have hx := hC.1
  have hb := hC.2.1
  have hml := hC.2.2.1
  have hown : s.vm.findClass RL = some m.cls := hC.2.2.2.1
  have hts := hC.2.2.2.2.1
  have hK := hC.2.2.2.2.2
  have hA : ∀ q : Nat, s.heap.size ≤ q → (fun q : Nat => s.heap.size ≤ q) q := fun _ h => h
  have hbA : ¬ (fun q : Nat => s.heap.size ≤ q) b := Nat.not_le.mpr hbl
  unfold f_law21 at hf
  refine lv_aload_n hx hb dL_law_1338 rfl (lv_at hl 4 rfl) ?_
  refine lv_aload_n hx hb dL_law_1339 rfl (lv_at hl 5 rfl) ?_
  refine lv_iload hx hb dL_law_1340 (lv_at hl 0 rfl) ?_
  refine lv_iconst (v := 1) hx hb dL_law_1342 (by decide) ?_
  refine lv_iadd hx hb dL_law_1343 ?_
  replace hf := ckiE hf
  obtain ⟨h1, hf⟩ := hf
  refine va_sld hx hb hX hbl hbA hS h1 dL_law_1344 ?_
  refine lv_aload_n hx hb dL_law_1345 rfl (lv_at hl 5 rfl) ?_
  refine lv_iload hx hb dL_law_1346 (lv_at hl 0 rfl) ?_
  refine lv_iconst (v := 2) hx hb dL_law_1348 (by decide) ?_
  refine lv_iadd hx hb dL_law_1349 ?_
  replace hf := ckiE hf
  obtain ⟨h2, hf⟩ := hf
  refine va_sld hx hb hX hbl hbA hS h2 dL_law_1350 ?_
  refine lv_aload_n hx hb dL_law_1351 rfl (lv_at hl 2 rfl) ?_
  replace hf := obE hf
  obtain ⟨z3, hz3, hf⟩ := hf
  obtain ⟨r5, S4⟩ := z3
  replace hf := ltE (ltE hf r5 rfl) S4 rfl
  refine x_callSWc (As := [.ref (ad o1), .int (xs (Int32.toNatClampNeg (i + 1))), .int (xs (Int32.toNatClampNeg (i + 2))), .ref (ad o3)]) (rest := []) (o := (some (.int r5))) (S1 := S4) hC hl.1 hW hS hGs hA (c_L_expiresOn l hfl g ad n K H.size F S0 o1 (xs (Int32.toNatClampNeg (i + 1))) (xs (Int32.toNatClampNeg (i + 2))) o3 t1 t3 r5 S4 hz3) (vx_cwSW (hh := [(0, 10, 13, 31)]) 4 hts gL_law_L_expiresOn rfl rfl rfl (by decide +kernel) ⟨Nat.le_trans (Nat.le_of_ble_eq_true rfl) hRf, Nat.le_trans (Nat.le_of_ble_eq_true rfl) hRl⟩) rfl rfl (Nat.le_of_ble_eq_true rfl) dL_law_1352 ⟨by omega, by omega⟩ (fun H locs hPz3 hW hS => ?_)
  refine W.widen (k := cells + 1) (n := slots + 6) (by omega) (by omega) ?_
  refine W.eq (g2 := F0 m 1355 ls [.int r5]) rfl ?_
  refine lv_istore (lv' := [(6, .int r5), (5, .int i), (4, .ref (ad o4)), (3, .ref (ad o3)), (2, .ref (ad o2)), (1, .ref (ad o1)), (0, .ref b)]) hx hb dL_law_1355 hl (by decide) rfl (fun ls hl => ?_)
  refine lv_aload_n hx hb dL_law_1357 rfl (lv_at hl 4 rfl) ?_
  refine lv_aload_n hx hb dL_law_1358 rfl (lv_at hl 6 rfl) ?_
  refine lv_iload hx hb dL_law_1359 (lv_at hl 1 rfl) ?_
  refine lv_iconst (v := 1) hx hb dL_law_1361 (by decide) ?_
  refine lv_iadd hx hb dL_law_1362 ?_
  replace hf := ckiE hf
  obtain ⟨h7, hf⟩ := hf
  refine va_sld hx hb hX hbl hbA hS h7 dL_law_1363 ?_
  refine lv_aload_n hx hb dL_law_1364 rfl (lv_at hl 6 rfl) ?_
  refine lv_iload hx hb dL_law_1365 (lv_at hl 1 rfl) ?_
  refine lv_iconst (v := 2) hx hb dL_law_1367 (by decide) ?_
  refine lv_iadd hx hb dL_law_1368 ?_
  replace hf := ckiE hf
  obtain ⟨h8, hf⟩ := hf
  refine va_sld hx hb hX hbl hbA hS h8 dL_law_1369 ?_
  replace hf := obE hf
  obtain ⟨z9, hz9, hf⟩ := hf
  obtain ⟨r11, S10⟩ := z9
  replace hf := ltE (ltE hf r11 rfl) S10 rfl
  refine x_callV (As := [.int (xs (Int32.toNatClampNeg (i + 1))), .int (xs (Int32.toNatClampNeg (i + 2)))]) (rest := []) (o := (some (.int r11))) (S1 := S10) hC hl.1 hW hS hGs hA t2 rfl (show vwCl[10]? = some (RX11, TX11, 30) ∧ 10 < 11 from ⟨rfl, by decide⟩) (c_X11_expiresOn l g ad n K H.size F S4 o2 (xs (Int32.toNatClampNeg (i + 1))) (xs (Int32.toNatClampNeg (i + 2))) t2 r11 S10 hz9) (cwV 2 hts gL_law_X11_expiresOn rfl rfl rfl (by decide +kernel) ⟨Nat.le_trans (Nat.le_of_ble_eq_true rfl) hRf, Nat.le_trans (Nat.le_of_ble_eq_true rfl) hRl⟩) rfl rfl (Nat.le_of_ble_eq_true rfl) dL_law_1370 ⟨by omega, by omega⟩ (fun H locs hPz9 hW hS => ?_)
  refine W.eq (g2 := F0 m 1373 ls [.int r11]) rfl ?_
  refine lv_istore (lv' := [(7, .int r11), (6, .int r5), (5, .int i), (4, .ref (ad o4)), (3, .ref (ad o3)), (2, .ref (ad o2)), (1, .ref (ad o1)), (0, .ref b)]) hx hb dL_law_1373 hl (by decide) rfl (fun ls hl => ?_)
  refine lv_aload_n hx hb dL_law_1375 rfl (lv_at hl 5 rfl) ?_
  replace hf := obE hf
  obtain ⟨z13, hz13, hf⟩ := hf
  obtain ⟨r15, S14⟩ := z13
  replace hf := ltE (ltE hf r15 rfl) S14 rfl
  refine x_callV (As := []) (rest := []) (o := (some (.int r15))) (S1 := S14) hC hl.1 hW hS hGs hA t2 rfl (show vwCl[10]? = some (RX11, TX11, 30) ∧ 10 < 11 from ⟨rfl, by decide⟩) (c_X11_thrown l g ad n K H.size F S10 o2 t2 r15 S14 hz13) (cwV 0 hts gL_law_X11_thrown rfl rfl rfl (by decide +kernel) ⟨Nat.le_trans (Nat.le_of_ble_eq_true rfl) hRf, Nat.le_trans (Nat.le_of_ble_eq_true rfl) hRl⟩) rfl rfl (Nat.le_of_ble_eq_true rfl) dL_law_1376 ⟨by omega, by omega⟩ (fun H locs hPz13 hW hS => ?_)
  refine W.eq (g2 := F0 m 1379 ls [.int r15]) rfl ?_
  refine lv_iload hx hb dL_law_1379 (lv_at hl 1 rfl) ?_
  refine lv_icmp_eq (tgt := 1386) hx hb dL_law_1381 (by decide) (fun c17 => ?_) (fun c17 => ?_)
  · replace hf := ifT c17 hf
    refine lv_iload hx hb dL_law_1386 (lv_at hl 1 rfl) ?_
    refine lv_if_ne (tgt := 1403) hx hb dL_law_1388 (by decide) (fun c18 => ?_) (fun c18 => ?_)
    · replace hf := ifT c18 hf
      refine lv_goto (tgt := 3297) hx hb dL_law_1403 (by decide) ?_
      obtain ⟨e1, e2⟩ := so2 hf
      subst e1
      subst e2
      refine W.widen (k := cells + 20) (n := slots + 8189) (by omega) (by omega) ?_
      exact kk ad K _ _ ls Ag.rf hW hS (lv_sub hl [2, 3, 4, 5, 6, 7] rfl)
    · replace hf := ifF (fun q => q c18) hf
      refine lv_aload_n hx hb dL_law_1391 rfl (lv_at hl 4 rfl) ?_
      refine lv_iconst (v := 0) hx hb dL_law_1392 (by decide) ?_
      replace hf := ckiE hf
      obtain ⟨h19, hf⟩ := hf
      refine x_lald hC hW t3 rfl rfl h19 dL_law_1393 ?_
      refine lv_iload hx hb dL_law_1394 (lv_at hl 0 rfl) ?_
      refine lv_i2l (v := r11.toInt64) hx hb dL_law_1396 rfl ?_
      refine W.lcmp hx hb dL_law_1397 ?_
      refine lv_if_eq (tgt := 1403) hx hb dL_law_1398 (by decide) (fun c20 => ?_) (fun c20 => ?_)
      · replace hf := ifT c20 hf
        refine lv_goto (tgt := 3297) hx hb dL_law_1403 (by decide) ?_
        obtain ⟨e1, e2⟩ := so2 hf
        subst e1
        subst e2
        refine W.widen (k := cells + 20) (n := slots + 8189) (by omega) (by omega) ?_
        exact kk ad K _ _ ls Ag.rf hW hS (lv_sub hl [2, 3, 4, 5, 6, 7] rfl)
      · replace hf := ifF c20 hf
        refine lv_iconst (v := 0) hx hb dL_law_1401 (by decide) ?_
        cases hf
  · replace hf := ifF c17 hf
    refine lv_iconst (v := 0) hx hb dL_law_1384 (by decide) ?_
    cases hf
set_option maxHeartbeats 4000000 in
set_option maxRecDepth 100000 in
theorem c_law22 {p : Program} {e : Env} {R : Room} {s : State} {m : MethodId} {below : List Frame} {meth : Method} {c : Code} {Q : State → Prop} {b L : Nat} {xs : Nat → Int32} {H : Heap} {locs : List Loc} {ls : Array Slot} {cells slots : Nat} (l : Launch) (hfl : l.stackTraces = false) (g : GP) (ad : Nat → Nat) (n : Nat) (K : Nat → Nat) (F : Nat) (S0 : St) (o1 o2 o3 o4 : Nat) (i : Int32) (hC : Cx g p s m #[.ref b] c cL_law RL lw_tbl 9) (hX : va_X b L xs s s.heap) (hbl : b < s.heap.size) (hGs : GF g (fun q : Nat => s.heap.size ≤ q) s s.heap) (hW : Wb g ad n K S0 (fun q : Nat => s.heap.size ≤ q) H) (hS : va_S (fun q : Nat => s.heap.size ≤ q) s.heap H locs) (t1 : o1 < n ∧ K o1 = 9) (t2 : o2 < n ∧ K o2 = 10) (t3 : o3 < n ∧ K o3 = 13) (t4 : o4 < n ∧ K o4 = 17) (hl : lv_has ls 9 [(5, .int i), (4, .ref (ad o4)), (3, .ref (ad o3)), (2, .ref (ad o2)), (1, .ref (ad o1)), (0, .ref b)]) (hRf : 13 ≤ R.frames) (hRl : 280 ≤ R.locals) (hRc : cells + 20 ≤ R.cells) (hRs : slots + 8189 ≤ R.slots) (S9 : St) (n9 : Nat) (hf : f_law22 F xs L S0 n o1 o2 o3 o4 i = some (S9, n9))
    (kk : ∀ (ad9 K9 : Nat → Nat) (H1 : Heap) (locs1 : List Loc) (ls1 : Array Slot), Ag ad K n ad9 K9 n9 → Wb g ad9 n9 K9 S9 (fun q : Nat => s.heap.size ≤ q) H1 → va_S (fun q : Nat => s.heap.size ≤ q) s.heap H1 locs1 → lv_has ls1 9 [(5, .int i), (4, .ref (ad9 o4)), (3, .ref (ad9 o3)), (2, .ref (ad9 o2)), (1, .ref (ad9 o1)), (0, .ref b)] → W p l e R s m #[.ref b] below meth c H1 locs1 (cells + 20) (slots + 8189) Q (F0 m 3297 ls1 [])) :
    W p l e R s m #[.ref b] below meth c H locs cells slots Q (F0 m 1406 ls []) := by
  have hx := hC.1
  have hb := hC.2.1
  have hml := hC.2.2.1
  have hown : s.vm.findClass RL = some m.cls := hC.2.2.2.1
  have hts := hC.2.2.2.2.1
  have hK := hC.2.2.2.2.2
  have hA : ∀ q : Nat, s.heap.size ≤ q → (fun q : Nat => s.heap.size ≤ q) q := fun _ h => h
  have hbA : ¬ (fun q : Nat => s.heap.size ≤ q) b := Nat.not_le.mpr hbl
  unfold f_law22 at hf
  refine lv_aload_n hx hb dL_law_1406 rfl (lv_at hl 4 rfl) ?_
  refine lv_aload_n hx hb dL_law_1407 rfl (lv_at hl 5 rfl) ?_
  refine lv_iload hx hb dL_law_1408 (lv_at hl 0 rfl) ?_
  refine lv_iconst (v := 1) hx hb dL_law_1410 (by decide) ?_
  refine lv_iadd hx hb dL_law_1411 ?_
  replace hf := ckiE hf
  obtain ⟨h1, hf⟩ := hf
  refine va_sld hx hb hX hbl hbA hS h1 dL_law_1412 ?_
  refine lv_aload_n hx hb dL_law_1413 rfl (lv_at hl 5 rfl) ?_
  refine lv_iload hx hb dL_law_1414 (lv_at hl 0 rfl) ?_
  refine lv_iconst (v := 2) hx hb dL_law_1416 (by decide) ?_
  refine lv_iadd hx hb dL_law_1417 ?_
  replace hf := ckiE hf
  obtain ⟨h2, hf⟩ := hf
  refine va_sld hx hb hX hbl hbA hS h2 dL_law_1418 ?_
  refine lv_aload_n hx hb dL_law_1419 rfl (lv_at hl 2 rfl) ?_
  replace hf := obE hf
  obtain ⟨z3, hz3, hf⟩ := hf
  obtain ⟨r5, S4⟩ := z3
  replace hf := ltE (ltE hf r5 rfl) S4 rfl
  refine x_callSWc (As := [.ref (ad o1), .int (xs (Int32.toNatClampNeg (i + 1))), .int (xs (Int32.toNatClampNeg (i + 2))), .ref (ad o3)]) (rest := []) (o := (some (.int r5))) (S1 := S4) hC hl.1 hW hS hGs hA (c_L_isKept l hfl g ad n K H.size F S0 o1 (xs (Int32.toNatClampNeg (i + 1))) (xs (Int32.toNatClampNeg (i + 2))) o3 t1 t3 r5 S4 hz3) (vx_cwSW (hh := [(0, 17, 20, 31)]) 4 hts gL_law_L_isKept rfl rfl rfl (by decide +kernel) ⟨Nat.le_trans (Nat.le_of_ble_eq_true rfl) hRf, Nat.le_trans (Nat.le_of_ble_eq_true rfl) hRl⟩) rfl rfl (Nat.le_of_ble_eq_true rfl) dL_law_1420 ⟨by omega, by omega⟩ (fun H locs hPz3 hW hS => ?_)
  refine W.widen (k := cells + 1) (n := slots + 6) (by omega) (by omega) ?_
  refine W.eq (g2 := F0 m 1423 ls [.int r5]) rfl ?_
  refine lv_istore (lv' := [(6, .int r5), (5, .int i), (4, .ref (ad o4)), (3, .ref (ad o3)), (2, .ref (ad o2)), (1, .ref (ad o1)), (0, .ref b)]) hx hb dL_law_1423 hl (by decide) rfl (fun ls hl => ?_)
  refine lv_aload_n hx hb dL_law_1425 rfl (lv_at hl 4 rfl) ?_
  refine lv_aload_n hx hb dL_law_1426 rfl (lv_at hl 6 rfl) ?_
  refine lv_iload hx hb dL_law_1427 (lv_at hl 1 rfl) ?_
  refine lv_iconst (v := 1) hx hb dL_law_1429 (by decide) ?_
  refine lv_iadd hx hb dL_law_1430 ?_
  replace hf := ckiE hf
  obtain ⟨h7, hf⟩ := hf
  refine va_sld hx hb hX hbl hbA hS h7 dL_law_1431 ?_
  refine lv_aload_n hx hb dL_law_1432 rfl (lv_at hl 6 rfl) ?_
  refine lv_iload hx hb dL_law_1433 (lv_at hl 1 rfl) ?_
  refine lv_iconst (v := 2) hx hb dL_law_1435 (by decide) ?_
  refine lv_iadd hx hb dL_law_1436 ?_
  replace hf := ckiE hf
  obtain ⟨h8, hf⟩ := hf
  refine va_sld hx hb hX hbl hbA hS h8 dL_law_1437 ?_
  replace hf := obE hf
  obtain ⟨z9, hz9, hf⟩ := hf
  obtain ⟨r11, S10⟩ := z9
  replace hf := ltE (ltE hf r11 rfl) S10 rfl
  refine x_callV (As := [.int (xs (Int32.toNatClampNeg (i + 1))), .int (xs (Int32.toNatClampNeg (i + 2)))]) (rest := []) (o := (some (.int r11))) (S1 := S10) hC hl.1 hW hS hGs hA t2 rfl (show vwCl[10]? = some (RX11, TX11, 30) ∧ 10 < 11 from ⟨rfl, by decide⟩) (c_X11_isKept l g ad n K H.size F S4 o2 (xs (Int32.toNatClampNeg (i + 1))) (xs (Int32.toNatClampNeg (i + 2))) t2 r11 S10 hz9) (cwV 2 hts gL_law_X11_isKept rfl rfl rfl (by decide +kernel) ⟨Nat.le_trans (Nat.le_of_ble_eq_true rfl) hRf, Nat.le_trans (Nat.le_of_ble_eq_true rfl) hRl⟩) rfl rfl (Nat.le_of_ble_eq_true rfl) dL_law_1438 ⟨by omega, by omega⟩ (fun H locs hPz9 hW hS => ?_)
  refine W.eq (g2 := F0 m 1441 ls [.int r11]) rfl ?_
  refine lv_istore (lv' := [(7, .int r11), (6, .int r5), (5, .int i), (4, .ref (ad o4)), (3, .ref (ad o3)), (2, .ref (ad o2)), (1, .ref (ad o1)), (0, .ref b)]) hx hb dL_law_1441 hl (by decide) rfl (fun ls hl => ?_)
  refine lv_aload_n hx hb dL_law_1443 rfl (lv_at hl 5 rfl) ?_
  replace hf := obE hf
  obtain ⟨z13, hz13, hf⟩ := hf
  obtain ⟨r15, S14⟩ := z13
  replace hf := ltE (ltE hf r15 rfl) S14 rfl
  refine x_callV (As := []) (rest := []) (o := (some (.int r15))) (S1 := S14) hC hl.1 hW hS hGs hA t2 rfl (show vwCl[10]? = some (RX11, TX11, 30) ∧ 10 < 11 from ⟨rfl, by decide⟩) (c_X11_thrown l g ad n K H.size F S10 o2 t2 r15 S14 hz13) (cwV 0 hts gL_law_X11_thrown rfl rfl rfl (by decide +kernel) ⟨Nat.le_trans (Nat.le_of_ble_eq_true rfl) hRf, Nat.le_trans (Nat.le_of_ble_eq_true rfl) hRl⟩) rfl rfl (Nat.le_of_ble_eq_true rfl) dL_law_1444 ⟨by omega, by omega⟩ (fun H locs hPz13 hW hS => ?_)
  refine W.eq (g2 := F0 m 1447 ls [.int r15]) rfl ?_
  refine lv_iload hx hb dL_law_1447 (lv_at hl 1 rfl) ?_
  refine lv_icmp_eq (tgt := 1454) hx hb dL_law_1449 (by decide) (fun c17 => ?_) (fun c17 => ?_)
  · replace hf := ifT c17 hf
    refine lv_iload hx hb dL_law_1454 (lv_at hl 1 rfl) ?_
    refine lv_if_ne (tgt := 1478) hx hb dL_law_1456 (by decide) (fun c18 => ?_) (fun c18 => ?_)
    · replace hf := ifT c18 hf
      refine lv_goto (tgt := 3297) hx hb dL_law_1478 (by decide) ?_
      obtain ⟨e1, e2⟩ := so2 hf
      subst e1
      subst e2
      refine W.widen (k := cells + 20) (n := slots + 8189) (by omega) (by omega) ?_
      exact kk ad K _ _ ls Ag.rf hW hS (lv_sub hl [2, 3, 4, 5, 6, 7] rfl)
    · replace hf := ifF (fun q => q c18) hf
      refine lv_aload_n hx hb dL_law_1459 rfl (lv_at hl 4 rfl) ?_
      refine lv_iconst (v := 0) hx hb dL_law_1460 (by decide) ?_
      replace hf := ckiE hf
      obtain ⟨h19, hf⟩ := hf
      refine x_lald hC hW t3 rfl rfl h19 dL_law_1461 ?_
      refine lv_iload hx hb dL_law_1462 (lv_at hl 0 rfl) ?_
      refine lv_if_eq (tgt := 1471) hx hb dL_law_1464 (by decide) (fun c20 => ?_) (fun c20 => ?_)
      · replace hf := ifT c20 hf
        refine lv_lconst (v := 0) hx hb dL_law_1471 (by decide) ?_
        refine W.lcmp hx hb dL_law_1472 ?_
        refine lv_if_eq (tgt := 1478) hx hb dL_law_1473 (by decide) (fun c21 => ?_) (fun c21 => ?_)
        · replace hf := ifT c21 hf
          refine lv_goto (tgt := 3297) hx hb dL_law_1478 (by decide) ?_
          obtain ⟨e1, e2⟩ := so2 hf
          subst e1
          subst e2
          refine W.widen (k := cells + 20) (n := slots + 8189) (by omega) (by omega) ?_
          exact kk ad K _ _ ls Ag.rf hW hS (lv_sub hl [2, 3, 4, 5, 6, 7] rfl)
        · replace hf := ifF c21 hf
          refine lv_iconst (v := 0) hx hb dL_law_1476 (by decide) ?_
          cases hf
      · replace hf := ifF c20 hf
        refine lv_lconst (v := 1) hx hb dL_law_1467 (by decide) ?_
        refine lv_goto (tgt := 1472) hx hb dL_law_1468 (by decide) ?_
        refine W.lcmp hx hb dL_law_1472 ?_
        refine lv_if_eq (tgt := 1478) hx hb dL_law_1473 (by decide) (fun c22 => ?_) (fun c22 => ?_)
        · replace hf := ifT c22 hf
          refine lv_goto (tgt := 3297) hx hb dL_law_1478 (by decide) ?_
          obtain ⟨e1, e2⟩ := so2 hf
          subst e1
          subst e2
          refine W.widen (k := cells + 20) (n := slots + 8189) (by omega) (by omega) ?_
          exact kk ad K _ _ ls Ag.rf hW hS (lv_sub hl [2, 3, 4, 5, 6, 7] rfl)
        · replace hf := ifF c22 hf
          refine lv_iconst (v := 0) hx hb dL_law_1476 (by decide) ?_
          cases hf
  · replace hf := ifF c17 hf
    refine lv_iconst (v := 0) hx hb dL_law_1452 (by decide) ?_
    cases hf
set_option maxHeartbeats 4000000 in
set_option maxRecDepth 100000 in
theorem c_law23 {p : Program} {e : Env} {R : Room} {s : State} {m : MethodId} {below : List Frame} {meth : Method} {c : Code} {Q : State → Prop} {b L : Nat} {xs : Nat → Int32} {H : Heap} {locs : List Loc} {ls : Array Slot} {cells slots : Nat} (l : Launch) (hfl : l.stackTraces = false) (g : GP) (ad : Nat → Nat) (n : Nat) (K : Nat → Nat) (F : Nat) (S0 : St) (o1 o2 o3 o4 : Nat) (i : Int32) (hC : Cx g p s m #[.ref b] c cL_law RL lw_tbl 9) (hX : va_X b L xs s s.heap) (hbl : b < s.heap.size) (hGs : GF g (fun q : Nat => s.heap.size ≤ q) s s.heap) (hW : Wb g ad n K S0 (fun q : Nat => s.heap.size ≤ q) H) (hS : va_S (fun q : Nat => s.heap.size ≤ q) s.heap H locs) (t1 : o1 < n ∧ K o1 = 9) (t2 : o2 < n ∧ K o2 = 10) (t3 : o3 < n ∧ K o3 = 13) (t4 : o4 < n ∧ K o4 = 17) (hl : lv_has ls 9 [(5, .int i), (4, .ref (ad o4)), (3, .ref (ad o3)), (2, .ref (ad o2)), (1, .ref (ad o1)), (0, .ref b)]) (hRf : 13 ≤ R.frames) (hRl : 280 ≤ R.locals) (hRc : cells + 20 ≤ R.cells) (hRs : slots + 8189 ≤ R.slots) (S9 : St) (n9 : Nat) (hf : f_law23 F xs L S0 n o1 o2 o3 o4 i = some (S9, n9))
    (kk : ∀ (ad9 K9 : Nat → Nat) (H1 : Heap) (locs1 : List Loc) (ls1 : Array Slot), Ag ad K n ad9 K9 n9 → Wb g ad9 n9 K9 S9 (fun q : Nat => s.heap.size ≤ q) H1 → va_S (fun q : Nat => s.heap.size ≤ q) s.heap H1 locs1 → lv_has ls1 9 [(5, .int i), (4, .ref (ad9 o4)), (3, .ref (ad9 o3)), (2, .ref (ad9 o2)), (1, .ref (ad9 o1)), (0, .ref b)] → W p l e R s m #[.ref b] below meth c H1 locs1 (cells + 20) (slots + 8189) Q (F0 m 3297 ls1 [])) :
    W p l e R s m #[.ref b] below meth c H locs cells slots Q (F0 m 1481 ls []) := by
  have hx := hC.1
  have hb := hC.2.1
  have hml := hC.2.2.1
  have hown : s.vm.findClass RL = some m.cls := hC.2.2.2.1
  have hts := hC.2.2.2.2.1
  have hK := hC.2.2.2.2.2
  have hA : ∀ q : Nat, s.heap.size ≤ q → (fun q : Nat => s.heap.size ≤ q) q := fun _ h => h
  have hbA : ¬ (fun q : Nat => s.heap.size ≤ q) b := Nat.not_le.mpr hbl
  unfold f_law23 at hf
  refine lv_aload_n hx hb dL_law_1481 rfl (lv_at hl 4 rfl) ?_
  refine lv_aload_n hx hb dL_law_1482 rfl (lv_at hl 5 rfl) ?_
  refine lv_iload hx hb dL_law_1483 (lv_at hl 0 rfl) ?_
  refine lv_iconst (v := 1) hx hb dL_law_1485 (by decide) ?_
  refine lv_iadd hx hb dL_law_1486 ?_
  replace hf := ckiE hf
  obtain ⟨h1, hf⟩ := hf
  refine va_sld hx hb hX hbl hbA hS h1 dL_law_1487 ?_
  refine lv_aload_n hx hb dL_law_1488 rfl (lv_at hl 5 rfl) ?_
  refine lv_iload hx hb dL_law_1489 (lv_at hl 0 rfl) ?_
  refine lv_iconst (v := 2) hx hb dL_law_1491 (by decide) ?_
  refine lv_iadd hx hb dL_law_1492 ?_
  replace hf := ckiE hf
  obtain ⟨h2, hf⟩ := hf
  refine va_sld hx hb hX hbl hbA hS h2 dL_law_1493 ?_
  refine lv_aload_n hx hb dL_law_1494 rfl (lv_at hl 2 rfl) ?_
  replace hf := obE hf
  obtain ⟨z3, hz3, hf⟩ := hf
  obtain ⟨r5, S4⟩ := z3
  replace hf := ltE (ltE hf r5 rfl) S4 rfl
  refine x_callSWc (As := [.ref (ad o1), .int (xs (Int32.toNatClampNeg (i + 1))), .int (xs (Int32.toNatClampNeg (i + 2))), .ref (ad o3)]) (rest := []) (o := (some (.int r5))) (S1 := S4) hC hl.1 hW hS hGs hA (c_L_holdsOn l hfl g ad n K H.size F S0 o1 (xs (Int32.toNatClampNeg (i + 1))) (xs (Int32.toNatClampNeg (i + 2))) o3 t1 t3 r5 S4 hz3) (vx_cwSW (hh := [(0, 10, 13, 31)]) 4 hts gL_law_L_holdsOn rfl rfl rfl (by decide +kernel) ⟨Nat.le_trans (Nat.le_of_ble_eq_true rfl) hRf, Nat.le_trans (Nat.le_of_ble_eq_true rfl) hRl⟩) rfl rfl (Nat.le_of_ble_eq_true rfl) dL_law_1495 ⟨by omega, by omega⟩ (fun H locs hPz3 hW hS => ?_)
  refine W.widen (k := cells + 1) (n := slots + 6) (by omega) (by omega) ?_
  refine W.eq (g2 := F0 m 1498 ls [.int r5]) rfl ?_
  refine lv_istore (lv' := [(6, .int r5), (5, .int i), (4, .ref (ad o4)), (3, .ref (ad o3)), (2, .ref (ad o2)), (1, .ref (ad o1)), (0, .ref b)]) hx hb dL_law_1498 hl (by decide) rfl (fun ls hl => ?_)
  refine lv_aload_n hx hb dL_law_1500 rfl (lv_at hl 4 rfl) ?_
  refine lv_aload_n hx hb dL_law_1501 rfl (lv_at hl 6 rfl) ?_
  refine lv_iload hx hb dL_law_1502 (lv_at hl 1 rfl) ?_
  refine lv_iconst (v := 1) hx hb dL_law_1504 (by decide) ?_
  refine lv_iadd hx hb dL_law_1505 ?_
  replace hf := ckiE hf
  obtain ⟨h7, hf⟩ := hf
  refine va_sld hx hb hX hbl hbA hS h7 dL_law_1506 ?_
  refine lv_aload_n hx hb dL_law_1507 rfl (lv_at hl 6 rfl) ?_
  refine lv_iload hx hb dL_law_1508 (lv_at hl 1 rfl) ?_
  refine lv_iconst (v := 2) hx hb dL_law_1510 (by decide) ?_
  refine lv_iadd hx hb dL_law_1511 ?_
  replace hf := ckiE hf
  obtain ⟨h8, hf⟩ := hf
  refine va_sld hx hb hX hbl hbA hS h8 dL_law_1512 ?_
  replace hf := obE hf
  obtain ⟨z9, hz9, hf⟩ := hf
  obtain ⟨r11, S10⟩ := z9
  replace hf := ltE (ltE hf r11 rfl) S10 rfl
  refine x_callV (As := [.int (xs (Int32.toNatClampNeg (i + 1))), .int (xs (Int32.toNatClampNeg (i + 2)))]) (rest := []) (o := (some (.int r11))) (S1 := S10) hC hl.1 hW hS hGs hA t2 rfl (show vwCl[10]? = some (RX11, TX11, 30) ∧ 10 < 11 from ⟨rfl, by decide⟩) (c_X11_holdsOn l g ad n K H.size F S4 o2 (xs (Int32.toNatClampNeg (i + 1))) (xs (Int32.toNatClampNeg (i + 2))) t2 r11 S10 hz9) (cwV 2 hts gL_law_X11_holdsOn rfl rfl rfl (by decide +kernel) ⟨Nat.le_trans (Nat.le_of_ble_eq_true rfl) hRf, Nat.le_trans (Nat.le_of_ble_eq_true rfl) hRl⟩) rfl rfl (Nat.le_of_ble_eq_true rfl) dL_law_1513 ⟨by omega, by omega⟩ (fun H locs hPz9 hW hS => ?_)
  refine W.eq (g2 := F0 m 1516 ls [.int r11]) rfl ?_
  refine lv_istore (lv' := [(7, .int r11), (6, .int r5), (5, .int i), (4, .ref (ad o4)), (3, .ref (ad o3)), (2, .ref (ad o2)), (1, .ref (ad o1)), (0, .ref b)]) hx hb dL_law_1516 hl (by decide) rfl (fun ls hl => ?_)
  refine lv_aload_n hx hb dL_law_1518 rfl (lv_at hl 5 rfl) ?_
  replace hf := obE hf
  obtain ⟨z13, hz13, hf⟩ := hf
  obtain ⟨r15, S14⟩ := z13
  replace hf := ltE (ltE hf r15 rfl) S14 rfl
  refine x_callV (As := []) (rest := []) (o := (some (.int r15))) (S1 := S14) hC hl.1 hW hS hGs hA t2 rfl (show vwCl[10]? = some (RX11, TX11, 30) ∧ 10 < 11 from ⟨rfl, by decide⟩) (c_X11_thrown l g ad n K H.size F S10 o2 t2 r15 S14 hz13) (cwV 0 hts gL_law_X11_thrown rfl rfl rfl (by decide +kernel) ⟨Nat.le_trans (Nat.le_of_ble_eq_true rfl) hRf, Nat.le_trans (Nat.le_of_ble_eq_true rfl) hRl⟩) rfl rfl (Nat.le_of_ble_eq_true rfl) dL_law_1519 ⟨by omega, by omega⟩ (fun H locs hPz13 hW hS => ?_)
  refine W.eq (g2 := F0 m 1522 ls [.int r15]) rfl ?_
  refine lv_iload hx hb dL_law_1522 (lv_at hl 1 rfl) ?_
  refine lv_icmp_eq (tgt := 1529) hx hb dL_law_1524 (by decide) (fun c17 => ?_) (fun c17 => ?_)
  · replace hf := ifT c17 hf
    refine lv_iload hx hb dL_law_1529 (lv_at hl 1 rfl) ?_
    refine lv_if_ne (tgt := 1546) hx hb dL_law_1531 (by decide) (fun c18 => ?_) (fun c18 => ?_)
    · replace hf := ifT c18 hf
      refine lv_goto (tgt := 3297) hx hb dL_law_1546 (by decide) ?_
      obtain ⟨e1, e2⟩ := so2 hf
      subst e1
      subst e2
      refine W.widen (k := cells + 20) (n := slots + 8189) (by omega) (by omega) ?_
      exact kk ad K _ _ ls Ag.rf hW hS (lv_sub hl [2, 3, 4, 5, 6, 7] rfl)
    · replace hf := ifF (fun q => q c18) hf
      refine lv_aload_n hx hb dL_law_1534 rfl (lv_at hl 4 rfl) ?_
      refine lv_iconst (v := 0) hx hb dL_law_1535 (by decide) ?_
      replace hf := ckiE hf
      obtain ⟨h19, hf⟩ := hf
      refine x_lald hC hW t3 rfl rfl h19 dL_law_1536 ?_
      refine lv_iload hx hb dL_law_1537 (lv_at hl 0 rfl) ?_
      refine lv_i2l (v := r11.toInt64) hx hb dL_law_1539 rfl ?_
      refine W.lcmp hx hb dL_law_1540 ?_
      refine lv_if_eq (tgt := 1546) hx hb dL_law_1541 (by decide) (fun c20 => ?_) (fun c20 => ?_)
      · replace hf := ifT c20 hf
        refine lv_goto (tgt := 3297) hx hb dL_law_1546 (by decide) ?_
        obtain ⟨e1, e2⟩ := so2 hf
        subst e1
        subst e2
        refine W.widen (k := cells + 20) (n := slots + 8189) (by omega) (by omega) ?_
        exact kk ad K _ _ ls Ag.rf hW hS (lv_sub hl [2, 3, 4, 5, 6, 7] rfl)
      · replace hf := ifF c20 hf
        refine lv_iconst (v := 0) hx hb dL_law_1544 (by decide) ?_
        cases hf
  · replace hf := ifF c17 hf
    refine lv_iconst (v := 0) hx hb dL_law_1527 (by decide) ?_
    cases hf
set_option maxHeartbeats 4000000 in
set_option maxRecDepth 100000 in
theorem c_law24 {p : Program} {e : Env} {R : Room} {s : State} {m : MethodId} {below : List Frame} {meth : Method} {c : Code} {Q : State → Prop} {b L : Nat} {xs : Nat → Int32} {H : Heap} {locs : List Loc} {ls : Array Slot} {cells slots : Nat} (l : Launch) (hfl : l.stackTraces = false) (g : GP) (ad : Nat → Nat) (n : Nat) (K : Nat → Nat) (F : Nat) (S0 : St) (o1 o2 o3 o4 : Nat) (i : Int32) (hC : Cx g p s m #[.ref b] c cL_law RL lw_tbl 9) (hX : va_X b L xs s s.heap) (hbl : b < s.heap.size) (hGs : GF g (fun q : Nat => s.heap.size ≤ q) s s.heap) (hW : Wb g ad n K S0 (fun q : Nat => s.heap.size ≤ q) H) (hS : va_S (fun q : Nat => s.heap.size ≤ q) s.heap H locs) (t1 : o1 < n ∧ K o1 = 9) (t2 : o2 < n ∧ K o2 = 10) (t3 : o3 < n ∧ K o3 = 13) (t4 : o4 < n ∧ K o4 = 17) (hl : lv_has ls 9 [(5, .int i), (4, .ref (ad o4)), (3, .ref (ad o3)), (2, .ref (ad o2)), (1, .ref (ad o1)), (0, .ref b)]) (hRf : 13 ≤ R.frames) (hRl : 280 ≤ R.locals) (hRc : cells + 20 ≤ R.cells) (hRs : slots + 8189 ≤ R.slots) (S9 : St) (n9 : Nat) (hf : f_law24 F xs L S0 n o1 o2 o3 o4 i = some (S9, n9))
    (kk : ∀ (ad9 K9 : Nat → Nat) (H1 : Heap) (locs1 : List Loc) (ls1 : Array Slot), Ag ad K n ad9 K9 n9 → Wb g ad9 n9 K9 S9 (fun q : Nat => s.heap.size ≤ q) H1 → va_S (fun q : Nat => s.heap.size ≤ q) s.heap H1 locs1 → lv_has ls1 9 [(5, .int i), (4, .ref (ad9 o4)), (3, .ref (ad9 o3)), (2, .ref (ad9 o2)), (1, .ref (ad9 o1)), (0, .ref b)] → W p l e R s m #[.ref b] below meth c H1 locs1 (cells + 20) (slots + 8189) Q (F0 m 3297 ls1 [])) :
    W p l e R s m #[.ref b] below meth c H locs cells slots Q (F0 m 1549 ls []) := by
  have hx := hC.1
  have hb := hC.2.1
  have hml := hC.2.2.1
  have hown : s.vm.findClass RL = some m.cls := hC.2.2.2.1
  have hts := hC.2.2.2.2.1
  have hK := hC.2.2.2.2.2
  have hA : ∀ q : Nat, s.heap.size ≤ q → (fun q : Nat => s.heap.size ≤ q) q := fun _ h => h
  have hbA : ¬ (fun q : Nat => s.heap.size ≤ q) b := Nat.not_le.mpr hbl
  unfold f_law24 at hf
  refine lv_aload_n hx hb dL_law_1549 rfl (lv_at hl 4 rfl) ?_
  replace hf := obE hf
  obtain ⟨z1, hz1, hf⟩ := hf
  obtain ⟨r3, S2⟩ := z1
  replace hf := ltE (ltE hf r3 rfl) S2 rfl
  refine x_callV (As := []) (rest := []) (o := (some (.int r3))) (S1 := S2) hC hl.1 hW hS hGs hA t1 rfl (show vwCl[9]? = some (RX10, TX10, 11) ∧ 9 < 11 from ⟨rfl, by decide⟩) (c_X10_storedParts l g ad n K H.size F S0 o1 t1 r3 S2 hz1) (cwV 0 hts gL_law_X10_storedParts rfl rfl rfl (by decide +kernel) ⟨Nat.le_trans (Nat.le_of_ble_eq_true rfl) hRf, Nat.le_trans (Nat.le_of_ble_eq_true rfl) hRl⟩) rfl rfl (Nat.le_of_ble_eq_true rfl) dL_law_1550 ⟨by omega, by omega⟩ (fun H locs hPz1 hW hS => ?_)
  refine W.eq (g2 := F0 m 1553 ls [.int r3]) rfl ?_
  refine lv_aload_n hx hb dL_law_1553 rfl (lv_at hl 3 rfl) ?_
  replace hf := obE hf
  obtain ⟨z5, hz5, hf⟩ := hf
  obtain ⟨r7, S6⟩ := z5
  replace hf := ltE (ltE hf r7 rfl) S6 rfl
  refine x_callV (As := []) (rest := [.int r3]) (o := (some (.int r7))) (S1 := S6) hC hl.1 hW hS hGs hA t2 rfl (show vwCl[10]? = some (RX11, TX11, 30) ∧ 10 < 11 from ⟨rfl, by decide⟩) (c_X11_storedParts l g ad n K H.size F S2 o2 t2 r7 S6 hz5) (cwV 0 hts gL_law_X11_storedParts rfl rfl rfl (by decide +kernel) ⟨Nat.le_trans (Nat.le_of_ble_eq_true rfl) hRf, Nat.le_trans (Nat.le_of_ble_eq_true rfl) hRl⟩) rfl rfl (Nat.le_of_ble_eq_true rfl) dL_law_1554 ⟨by omega, by omega⟩ (fun H locs hPz5 hW hS => ?_)
  refine W.eq (g2 := F0 m 1557 ls [.int r7, .int r3]) rfl ?_
  refine lv_icmp_eq (tgt := 3297) hx hb dL_law_1557 (by decide) (fun c9 => ?_) (fun c9 => ?_)
  · replace hf := ifT c9 hf
    obtain ⟨e1, e2⟩ := so2 hf
    subst e1
    subst e2
    refine W.widen (k := cells + 20) (n := slots + 8189) (by omega) (by omega) ?_
    exact kk ad K _ _ ls Ag.rf hW hS (lv_sub hl [0, 1, 2, 3, 4, 5] rfl)
  · replace hf := ifF c9 hf
    refine lv_iconst (v := 0) hx hb dL_law_1560 (by decide) ?_
    cases hf
set_option maxHeartbeats 4000000 in
set_option maxRecDepth 100000 in
theorem c_law25 {p : Program} {e : Env} {R : Room} {s : State} {m : MethodId} {below : List Frame} {meth : Method} {c : Code} {Q : State → Prop} {b L : Nat} {xs : Nat → Int32} {H : Heap} {locs : List Loc} {ls : Array Slot} {cells slots : Nat} (l : Launch) (hfl : l.stackTraces = false) (g : GP) (ad : Nat → Nat) (n : Nat) (K : Nat → Nat) (F : Nat) (S0 : St) (o1 o2 o3 o4 : Nat) (i : Int32) (hC : Cx g p s m #[.ref b] c cL_law RL lw_tbl 9) (hX : va_X b L xs s s.heap) (hbl : b < s.heap.size) (hGs : GF g (fun q : Nat => s.heap.size ≤ q) s s.heap) (hW : Wb g ad n K S0 (fun q : Nat => s.heap.size ≤ q) H) (hS : va_S (fun q : Nat => s.heap.size ≤ q) s.heap H locs) (t1 : o1 < n ∧ K o1 = 9) (t2 : o2 < n ∧ K o2 = 10) (t3 : o3 < n ∧ K o3 = 13) (t4 : o4 < n ∧ K o4 = 17) (hl : lv_has ls 9 [(5, .int i), (4, .ref (ad o4)), (3, .ref (ad o3)), (2, .ref (ad o2)), (1, .ref (ad o1)), (0, .ref b)]) (hRf : 13 ≤ R.frames) (hRl : 280 ≤ R.locals) (hRc : cells + 20 ≤ R.cells) (hRs : slots + 8189 ≤ R.slots) (S9 : St) (n9 : Nat) (hf : f_law25 F xs L S0 n o1 o2 o3 o4 i = some (S9, n9))
    (kk : ∀ (ad9 K9 : Nat → Nat) (H1 : Heap) (locs1 : List Loc) (ls1 : Array Slot), Ag ad K n ad9 K9 n9 → Wb g ad9 n9 K9 S9 (fun q : Nat => s.heap.size ≤ q) H1 → va_S (fun q : Nat => s.heap.size ≤ q) s.heap H1 locs1 → lv_has ls1 9 [(5, .int i), (4, .ref (ad9 o4)), (3, .ref (ad9 o3)), (2, .ref (ad9 o2)), (1, .ref (ad9 o1)), (0, .ref b)] → W p l e R s m #[.ref b] below meth c H1 locs1 (cells + 20) (slots + 8189) Q (F0 m 3297 ls1 [])) :
    W p l e R s m #[.ref b] below meth c H locs cells slots Q (F0 m 1562 ls []) := by
  have hx := hC.1
  have hb := hC.2.1
  have hml := hC.2.2.1
  have hown : s.vm.findClass RL = some m.cls := hC.2.2.2.1
  have hts := hC.2.2.2.2.1
  have hK := hC.2.2.2.2.2
  have hA : ∀ q : Nat, s.heap.size ≤ q → (fun q : Nat => s.heap.size ≤ q) q := fun _ h => h
  have hbA : ¬ (fun q : Nat => s.heap.size ≤ q) b := Nat.not_le.mpr hbl
  unfold f_law25 at hf
  refine lv_aload_n hx hb dL_law_1562 rfl (lv_at hl 4 rfl) ?_
  refine lv_aload_n hx hb dL_law_1563 rfl (lv_at hl 5 rfl) ?_
  refine lv_iload hx hb dL_law_1564 (lv_at hl 0 rfl) ?_
  refine lv_iconst (v := 1) hx hb dL_law_1566 (by decide) ?_
  refine lv_iadd hx hb dL_law_1567 ?_
  replace hf := ckiE hf
  obtain ⟨h1, hf⟩ := hf
  refine va_sld hx hb hX hbl hbA hS h1 dL_law_1568 ?_
  refine lv_aload_n hx hb dL_law_1569 rfl (lv_at hl 2 rfl) ?_
  replace hf := obE hf
  obtain ⟨z2, hz2, hf⟩ := hf
  obtain ⟨r4, S3⟩ := z2
  replace hf := ltE (ltE hf r4 rfl) S3 rfl
  refine x_callSWc (As := [.ref (ad o1), .int (xs (Int32.toNatClampNeg (i + 1))), .ref (ad o3)]) (rest := []) (o := (some (.int r4))) (S1 := S3) hC hl.1 hW hS hGs hA (c_L_storedPart l hfl g ad n K H.size F S0 o1 (xs (Int32.toNatClampNeg (i + 1))) o3 t1 t3 r4 S3 hz2) (vx_cwSW (hh := [(0, 9, 12, 31)]) 3 hts gL_law_L_storedPart rfl rfl rfl (by decide +kernel) ⟨Nat.le_trans (Nat.le_of_ble_eq_true rfl) hRf, Nat.le_trans (Nat.le_of_ble_eq_true rfl) hRl⟩) rfl rfl (Nat.le_of_ble_eq_true rfl) dL_law_1570 ⟨by omega, by omega⟩ (fun H locs hPz2 hW hS => ?_)
  refine W.widen (k := cells + 1) (n := slots + 6) (by omega) (by omega) ?_
  refine W.eq (g2 := F0 m 1573 ls [.int r4]) rfl ?_
  refine lv_istore (lv' := [(6, .int r4), (5, .int i), (4, .ref (ad o4)), (3, .ref (ad o3)), (2, .ref (ad o2)), (1, .ref (ad o1)), (0, .ref b)]) hx hb dL_law_1573 hl (by decide) rfl (fun ls hl => ?_)
  refine lv_aload_n hx hb dL_law_1575 rfl (lv_at hl 4 rfl) ?_
  refine lv_aload_n hx hb dL_law_1576 rfl (lv_at hl 6 rfl) ?_
  refine lv_iload hx hb dL_law_1577 (lv_at hl 1 rfl) ?_
  refine lv_iconst (v := 1) hx hb dL_law_1579 (by decide) ?_
  refine lv_iadd hx hb dL_law_1580 ?_
  replace hf := ckiE hf
  obtain ⟨h6, hf⟩ := hf
  refine va_sld hx hb hX hbl hbA hS h6 dL_law_1581 ?_
  replace hf := obE hf
  obtain ⟨z7, hz7, hf⟩ := hf
  obtain ⟨r9, S8⟩ := z7
  replace hf := ltE (ltE hf r9 rfl) S8 rfl
  refine x_callV (As := [.int (xs (Int32.toNatClampNeg (i + 1)))]) (rest := []) (o := (some (.int r9))) (S1 := S8) hC hl.1 hW hS hGs hA t2 rfl (show vwCl[10]? = some (RX11, TX11, 30) ∧ 10 < 11 from ⟨rfl, by decide⟩) (c_X11_storedPart l g ad n K H.size F S3 o2 (xs (Int32.toNatClampNeg (i + 1))) t2 r9 S8 hz7) (cwV 1 hts gL_law_X11_storedPart rfl rfl rfl (by decide +kernel) ⟨Nat.le_trans (Nat.le_of_ble_eq_true rfl) hRf, Nat.le_trans (Nat.le_of_ble_eq_true rfl) hRl⟩) rfl rfl (Nat.le_of_ble_eq_true rfl) dL_law_1582 ⟨by omega, by omega⟩ (fun H locs hPz7 hW hS => ?_)
  refine W.eq (g2 := F0 m 1585 ls [.int r9]) rfl ?_
  refine lv_istore (lv' := [(7, .int r9), (6, .int r4), (5, .int i), (4, .ref (ad o4)), (3, .ref (ad o3)), (2, .ref (ad o2)), (1, .ref (ad o1)), (0, .ref b)]) hx hb dL_law_1585 hl (by decide) rfl (fun ls hl => ?_)
  refine lv_aload_n hx hb dL_law_1587 rfl (lv_at hl 5 rfl) ?_
  replace hf := obE hf
  obtain ⟨z11, hz11, hf⟩ := hf
  obtain ⟨r13, S12⟩ := z11
  replace hf := ltE (ltE hf r13 rfl) S12 rfl
  refine x_callV (As := []) (rest := []) (o := (some (.int r13))) (S1 := S12) hC hl.1 hW hS hGs hA t2 rfl (show vwCl[10]? = some (RX11, TX11, 30) ∧ 10 < 11 from ⟨rfl, by decide⟩) (c_X11_thrown l g ad n K H.size F S8 o2 t2 r13 S12 hz11) (cwV 0 hts gL_law_X11_thrown rfl rfl rfl (by decide +kernel) ⟨Nat.le_trans (Nat.le_of_ble_eq_true rfl) hRf, Nat.le_trans (Nat.le_of_ble_eq_true rfl) hRl⟩) rfl rfl (Nat.le_of_ble_eq_true rfl) dL_law_1588 ⟨by omega, by omega⟩ (fun H locs hPz11 hW hS => ?_)
  refine W.eq (g2 := F0 m 1591 ls [.int r13]) rfl ?_
  refine lv_iload hx hb dL_law_1591 (lv_at hl 1 rfl) ?_
  refine lv_icmp_eq (tgt := 1598) hx hb dL_law_1593 (by decide) (fun c15 => ?_) (fun c15 => ?_)
  · replace hf := ifT c15 hf
    refine lv_iload hx hb dL_law_1598 (lv_at hl 1 rfl) ?_
    refine lv_if_ne (tgt := 1615) hx hb dL_law_1600 (by decide) (fun c16 => ?_) (fun c16 => ?_)
    · replace hf := ifT c16 hf
      refine lv_goto (tgt := 3297) hx hb dL_law_1615 (by decide) ?_
      obtain ⟨e1, e2⟩ := so2 hf
      subst e1
      subst e2
      refine W.widen (k := cells + 20) (n := slots + 8189) (by omega) (by omega) ?_
      exact kk ad K _ _ ls Ag.rf hW hS (lv_sub hl [2, 3, 4, 5, 6, 7] rfl)
    · replace hf := ifF (fun q => q c16) hf
      refine lv_aload_n hx hb dL_law_1603 rfl (lv_at hl 4 rfl) ?_
      refine lv_iconst (v := 0) hx hb dL_law_1604 (by decide) ?_
      replace hf := ckiE hf
      obtain ⟨h17, hf⟩ := hf
      refine x_lald hC hW t3 rfl rfl h17 dL_law_1605 ?_
      refine lv_iload hx hb dL_law_1606 (lv_at hl 0 rfl) ?_
      refine lv_i2l (v := r9.toInt64) hx hb dL_law_1608 rfl ?_
      refine W.lcmp hx hb dL_law_1609 ?_
      refine lv_if_eq (tgt := 1615) hx hb dL_law_1610 (by decide) (fun c18 => ?_) (fun c18 => ?_)
      · replace hf := ifT c18 hf
        refine lv_goto (tgt := 3297) hx hb dL_law_1615 (by decide) ?_
        obtain ⟨e1, e2⟩ := so2 hf
        subst e1
        subst e2
        refine W.widen (k := cells + 20) (n := slots + 8189) (by omega) (by omega) ?_
        exact kk ad K _ _ ls Ag.rf hW hS (lv_sub hl [2, 3, 4, 5, 6, 7] rfl)
      · replace hf := ifF c18 hf
        refine lv_iconst (v := 0) hx hb dL_law_1613 (by decide) ?_
        cases hf
  · replace hf := ifF c15 hf
    refine lv_iconst (v := 0) hx hb dL_law_1596 (by decide) ?_
    cases hf
set_option maxHeartbeats 4000000 in
set_option maxRecDepth 100000 in
theorem c_law26 {p : Program} {e : Env} {R : Room} {s : State} {m : MethodId} {below : List Frame} {meth : Method} {c : Code} {Q : State → Prop} {b L : Nat} {xs : Nat → Int32} {H : Heap} {locs : List Loc} {ls : Array Slot} {cells slots : Nat} (l : Launch) (hfl : l.stackTraces = false) (g : GP) (ad : Nat → Nat) (n : Nat) (K : Nat → Nat) (F : Nat) (S0 : St) (o1 o2 o3 o4 : Nat) (i : Int32) (hC : Cx g p s m #[.ref b] c cL_law RL lw_tbl 9) (hX : va_X b L xs s s.heap) (hbl : b < s.heap.size) (hGs : GF g (fun q : Nat => s.heap.size ≤ q) s s.heap) (hW : Wb g ad n K S0 (fun q : Nat => s.heap.size ≤ q) H) (hS : va_S (fun q : Nat => s.heap.size ≤ q) s.heap H locs) (t1 : o1 < n ∧ K o1 = 9) (t2 : o2 < n ∧ K o2 = 10) (t3 : o3 < n ∧ K o3 = 13) (t4 : o4 < n ∧ K o4 = 17) (hl : lv_has ls 9 [(5, .int i), (4, .ref (ad o4)), (3, .ref (ad o3)), (2, .ref (ad o2)), (1, .ref (ad o1)), (0, .ref b)]) (hRf : 13 ≤ R.frames) (hRl : 280 ≤ R.locals) (hRc : cells + 20 ≤ R.cells) (hRs : slots + 8189 ≤ R.slots) (S9 : St) (n9 : Nat) (hf : f_law26 F xs L S0 n o1 o2 o3 o4 i = some (S9, n9))
    (kk : ∀ (ad9 K9 : Nat → Nat) (H1 : Heap) (locs1 : List Loc) (ls1 : Array Slot), Ag ad K n ad9 K9 n9 → Wb g ad9 n9 K9 S9 (fun q : Nat => s.heap.size ≤ q) H1 → va_S (fun q : Nat => s.heap.size ≤ q) s.heap H1 locs1 → lv_has ls1 9 [(5, .int i), (4, .ref (ad9 o4)), (3, .ref (ad9 o3)), (2, .ref (ad9 o2)), (1, .ref (ad9 o1)), (0, .ref b)] → W p l e R s m #[.ref b] below meth c H1 locs1 (cells + 20) (slots + 8189) Q (F0 m 3297 ls1 [])) :
    W p l e R s m #[.ref b] below meth c H locs cells slots Q (F0 m 1618 ls []) := by
  have hx := hC.1
  have hb := hC.2.1
  have hml := hC.2.2.1
  have hown : s.vm.findClass RL = some m.cls := hC.2.2.2.1
  have hts := hC.2.2.2.2.1
  have hK := hC.2.2.2.2.2
  have hA : ∀ q : Nat, s.heap.size ≤ q → (fun q : Nat => s.heap.size ≤ q) q := fun _ h => h
  have hbA : ¬ (fun q : Nat => s.heap.size ≤ q) b := Nat.not_le.mpr hbl
  unfold f_law26 at hf
  refine lv_aload_n hx hb dL_law_1618 rfl (lv_at hl 4 rfl) ?_
  refine lv_aload_n hx hb dL_law_1619 rfl (lv_at hl 5 rfl) ?_
  refine lv_iload hx hb dL_law_1620 (lv_at hl 0 rfl) ?_
  refine lv_iconst (v := 1) hx hb dL_law_1622 (by decide) ?_
  refine lv_iadd hx hb dL_law_1623 ?_
  replace hf := ckiE hf
  obtain ⟨h1, hf⟩ := hf
  refine va_sld hx hb hX hbl hbA hS h1 dL_law_1624 ?_
  refine lv_aload_n hx hb dL_law_1625 rfl (lv_at hl 5 rfl) ?_
  refine lv_iload hx hb dL_law_1626 (lv_at hl 0 rfl) ?_
  refine lv_iconst (v := 2) hx hb dL_law_1628 (by decide) ?_
  refine lv_iadd hx hb dL_law_1629 ?_
  replace hf := ckiE hf
  obtain ⟨h2, hf⟩ := hf
  refine va_sld hx hb hX hbl hbA hS h2 dL_law_1630 ?_
  refine lv_aload_n hx hb dL_law_1631 rfl (lv_at hl 2 rfl) ?_
  replace hf := obE hf
  obtain ⟨z3, hz3, hf⟩ := hf
  obtain ⟨r5, S4⟩ := z3
  replace hf := ltE (ltE hf r5 rfl) S4 rfl
  refine x_callSWc (As := [.ref (ad o1), .int (xs (Int32.toNatClampNeg (i + 1))), .int (xs (Int32.toNatClampNeg (i + 2))), .ref (ad o3)]) (rest := []) (o := (some (.int r5))) (S1 := S4) hC hl.1 hW hS hGs hA (c_L_part l hfl g ad n K H.size F S0 o1 (xs (Int32.toNatClampNeg (i + 1))) (xs (Int32.toNatClampNeg (i + 2))) o3 t1 t3 r5 S4 hz3) (vx_cwSW (hh := [(0, 10, 13, 31), (0, 10, 17, 19)]) 4 hts gL_law_L_part rfl rfl rfl (by decide +kernel) ⟨Nat.le_trans (Nat.le_of_ble_eq_true rfl) hRf, Nat.le_trans (Nat.le_of_ble_eq_true rfl) hRl⟩) rfl rfl (Nat.le_of_ble_eq_true rfl) dL_law_1632 ⟨by omega, by omega⟩ (fun H locs hPz3 hW hS => ?_)
  refine W.widen (k := cells + 2) (n := slots + 12) (by omega) (by omega) ?_
  refine W.eq (g2 := F0 m 1635 ls [.int r5]) rfl ?_
  refine lv_istore (lv' := [(6, .int r5), (5, .int i), (4, .ref (ad o4)), (3, .ref (ad o3)), (2, .ref (ad o2)), (1, .ref (ad o1)), (0, .ref b)]) hx hb dL_law_1635 hl (by decide) rfl (fun ls hl => ?_)
  refine lv_aload_n hx hb dL_law_1637 rfl (lv_at hl 4 rfl) ?_
  refine lv_aload_n hx hb dL_law_1638 rfl (lv_at hl 6 rfl) ?_
  refine lv_iload hx hb dL_law_1639 (lv_at hl 1 rfl) ?_
  refine lv_iconst (v := 1) hx hb dL_law_1641 (by decide) ?_
  refine lv_iadd hx hb dL_law_1642 ?_
  replace hf := ckiE hf
  obtain ⟨h7, hf⟩ := hf
  refine va_sld hx hb hX hbl hbA hS h7 dL_law_1643 ?_
  refine lv_aload_n hx hb dL_law_1644 rfl (lv_at hl 6 rfl) ?_
  refine lv_iload hx hb dL_law_1645 (lv_at hl 1 rfl) ?_
  refine lv_iconst (v := 2) hx hb dL_law_1647 (by decide) ?_
  refine lv_iadd hx hb dL_law_1648 ?_
  replace hf := ckiE hf
  obtain ⟨h8, hf⟩ := hf
  refine va_sld hx hb hX hbl hbA hS h8 dL_law_1649 ?_
  replace hf := obE hf
  obtain ⟨z9, hz9, hf⟩ := hf
  obtain ⟨r11, S10⟩ := z9
  replace hf := ltE (ltE hf r11 rfl) S10 rfl
  refine x_callV (As := [.int (xs (Int32.toNatClampNeg (i + 1))), .int (xs (Int32.toNatClampNeg (i + 2)))]) (rest := []) (o := (some (.int r11))) (S1 := S10) hC hl.1 hW hS hGs hA t2 rfl (show vwCl[10]? = some (RX11, TX11, 30) ∧ 10 < 11 from ⟨rfl, by decide⟩) (c_X11_part l g ad n K H.size F S4 o2 (xs (Int32.toNatClampNeg (i + 1))) (xs (Int32.toNatClampNeg (i + 2))) t2 r11 S10 hz9) (cwV 2 hts gL_law_X11_part rfl rfl rfl (by decide +kernel) ⟨Nat.le_trans (Nat.le_of_ble_eq_true rfl) hRf, Nat.le_trans (Nat.le_of_ble_eq_true rfl) hRl⟩) rfl rfl (Nat.le_of_ble_eq_true rfl) dL_law_1650 ⟨by omega, by omega⟩ (fun H locs hPz9 hW hS => ?_)
  refine W.eq (g2 := F0 m 1653 ls [.int r11]) rfl ?_
  refine lv_istore (lv' := [(7, .int r11), (6, .int r5), (5, .int i), (4, .ref (ad o4)), (3, .ref (ad o3)), (2, .ref (ad o2)), (1, .ref (ad o1)), (0, .ref b)]) hx hb dL_law_1653 hl (by decide) rfl (fun ls hl => ?_)
  refine lv_aload_n hx hb dL_law_1655 rfl (lv_at hl 5 rfl) ?_
  replace hf := obE hf
  obtain ⟨z13, hz13, hf⟩ := hf
  obtain ⟨r15, S14⟩ := z13
  replace hf := ltE (ltE hf r15 rfl) S14 rfl
  refine x_callV (As := []) (rest := []) (o := (some (.int r15))) (S1 := S14) hC hl.1 hW hS hGs hA t2 rfl (show vwCl[10]? = some (RX11, TX11, 30) ∧ 10 < 11 from ⟨rfl, by decide⟩) (c_X11_thrown l g ad n K H.size F S10 o2 t2 r15 S14 hz13) (cwV 0 hts gL_law_X11_thrown rfl rfl rfl (by decide +kernel) ⟨Nat.le_trans (Nat.le_of_ble_eq_true rfl) hRf, Nat.le_trans (Nat.le_of_ble_eq_true rfl) hRl⟩) rfl rfl (Nat.le_of_ble_eq_true rfl) dL_law_1656 ⟨by omega, by omega⟩ (fun H locs hPz13 hW hS => ?_)
  refine W.eq (g2 := F0 m 1659 ls [.int r15]) rfl ?_
  refine lv_iload hx hb dL_law_1659 (lv_at hl 1 rfl) ?_
  refine lv_icmp_eq (tgt := 1666) hx hb dL_law_1661 (by decide) (fun c17 => ?_) (fun c17 => ?_)
  · replace hf := ifT c17 hf
    refine lv_iload hx hb dL_law_1666 (lv_at hl 1 rfl) ?_
    refine lv_if_ne (tgt := 1683) hx hb dL_law_1668 (by decide) (fun c18 => ?_) (fun c18 => ?_)
    · replace hf := ifT c18 hf
      refine lv_goto (tgt := 3297) hx hb dL_law_1683 (by decide) ?_
      obtain ⟨e1, e2⟩ := so2 hf
      subst e1
      subst e2
      refine W.widen (k := cells + 20) (n := slots + 8189) (by omega) (by omega) ?_
      exact kk ad K _ _ ls Ag.rf hW hS (lv_sub hl [2, 3, 4, 5, 6, 7] rfl)
    · replace hf := ifF (fun q => q c18) hf
      refine lv_aload_n hx hb dL_law_1671 rfl (lv_at hl 4 rfl) ?_
      refine lv_iconst (v := 0) hx hb dL_law_1672 (by decide) ?_
      replace hf := ckiE hf
      obtain ⟨h19, hf⟩ := hf
      refine x_lald hC hW t3 rfl rfl h19 dL_law_1673 ?_
      refine lv_iload hx hb dL_law_1674 (lv_at hl 0 rfl) ?_
      refine lv_i2l (v := r11.toInt64) hx hb dL_law_1676 rfl ?_
      refine W.lcmp hx hb dL_law_1677 ?_
      refine lv_if_eq (tgt := 1683) hx hb dL_law_1678 (by decide) (fun c20 => ?_) (fun c20 => ?_)
      · replace hf := ifT c20 hf
        refine lv_goto (tgt := 3297) hx hb dL_law_1683 (by decide) ?_
        obtain ⟨e1, e2⟩ := so2 hf
        subst e1
        subst e2
        refine W.widen (k := cells + 20) (n := slots + 8189) (by omega) (by omega) ?_
        exact kk ad K _ _ ls Ag.rf hW hS (lv_sub hl [2, 3, 4, 5, 6, 7] rfl)
      · replace hf := ifF c20 hf
        refine lv_iconst (v := 0) hx hb dL_law_1681 (by decide) ?_
        cases hf
  · replace hf := ifF c17 hf
    refine lv_iconst (v := 0) hx hb dL_law_1664 (by decide) ?_
    cases hf
set_option maxHeartbeats 4000000 in
set_option maxRecDepth 100000 in
theorem c_law27 {p : Program} {e : Env} {R : Room} {s : State} {m : MethodId} {below : List Frame} {meth : Method} {c : Code} {Q : State → Prop} {b L : Nat} {xs : Nat → Int32} {H : Heap} {locs : List Loc} {ls : Array Slot} {cells slots : Nat} (l : Launch) (hfl : l.stackTraces = false) (g : GP) (ad : Nat → Nat) (n : Nat) (K : Nat → Nat) (F : Nat) (S0 : St) (o1 o2 o3 o4 : Nat) (i : Int32) (hC : Cx g p s m #[.ref b] c cL_law RL lw_tbl 9) (hX : va_X b L xs s s.heap) (hbl : b < s.heap.size) (hGs : GF g (fun q : Nat => s.heap.size ≤ q) s s.heap) (hW : Wb g ad n K S0 (fun q : Nat => s.heap.size ≤ q) H) (hS : va_S (fun q : Nat => s.heap.size ≤ q) s.heap H locs) (t1 : o1 < n ∧ K o1 = 9) (t2 : o2 < n ∧ K o2 = 10) (t3 : o3 < n ∧ K o3 = 13) (t4 : o4 < n ∧ K o4 = 17) (hl : lv_has ls 9 [(5, .int i), (4, .ref (ad o4)), (3, .ref (ad o3)), (2, .ref (ad o2)), (1, .ref (ad o1)), (0, .ref b)]) (hRf : 13 ≤ R.frames) (hRl : 280 ≤ R.locals) (hRc : cells + 20 ≤ R.cells) (hRs : slots + 8189 ≤ R.slots) (S9 : St) (n9 : Nat) (hf : f_law27 F xs L S0 n o1 o2 o3 o4 i = some (S9, n9))
    (kk : ∀ (ad9 K9 : Nat → Nat) (H1 : Heap) (locs1 : List Loc) (ls1 : Array Slot), Ag ad K n ad9 K9 n9 → Wb g ad9 n9 K9 S9 (fun q : Nat => s.heap.size ≤ q) H1 → va_S (fun q : Nat => s.heap.size ≤ q) s.heap H1 locs1 → lv_has ls1 9 [(5, .int i), (4, .ref (ad9 o4)), (3, .ref (ad9 o3)), (2, .ref (ad9 o2)), (1, .ref (ad9 o1)), (0, .ref b)] → W p l e R s m #[.ref b] below meth c H1 locs1 (cells + 20) (slots + 8189) Q (F0 m 3297 ls1 [])) :
    W p l e R s m #[.ref b] below meth c H locs cells slots Q (F0 m 1686 ls []) := by
  have hx := hC.1
  have hb := hC.2.1
  have hml := hC.2.2.1
  have hown : s.vm.findClass RL = some m.cls := hC.2.2.2.1
  have hts := hC.2.2.2.2.1
  have hK := hC.2.2.2.2.2
  have hA : ∀ q : Nat, s.heap.size ≤ q → (fun q : Nat => s.heap.size ≤ q) q := fun _ h => h
  have hbA : ¬ (fun q : Nat => s.heap.size ≤ q) b := Nat.not_le.mpr hbl
  unfold f_law27 at hf
  refine lv_aload_n hx hb dL_law_1686 rfl (lv_at hl 4 rfl) ?_
  refine lv_aload_n hx hb dL_law_1687 rfl (lv_at hl 5 rfl) ?_
  refine lv_iload hx hb dL_law_1688 (lv_at hl 0 rfl) ?_
  refine lv_iconst (v := 1) hx hb dL_law_1690 (by decide) ?_
  refine lv_iadd hx hb dL_law_1691 ?_
  replace hf := ckiE hf
  obtain ⟨h1, hf⟩ := hf
  refine va_sld hx hb hX hbl hbA hS h1 dL_law_1692 ?_
  refine lv_aload_n hx hb dL_law_1693 rfl (lv_at hl 5 rfl) ?_
  refine lv_iload hx hb dL_law_1694 (lv_at hl 0 rfl) ?_
  refine lv_iconst (v := 2) hx hb dL_law_1696 (by decide) ?_
  refine lv_iadd hx hb dL_law_1697 ?_
  replace hf := ckiE hf
  obtain ⟨h2, hf⟩ := hf
  refine va_sld hx hb hX hbl hbA hS h2 dL_law_1698 ?_
  refine lv_aload_n hx hb dL_law_1699 rfl (lv_at hl 2 rfl) ?_
  replace hf := obE hf
  obtain ⟨z3, hz3, hf⟩ := hf
  obtain ⟨r5, S4⟩ := z3
  replace hf := ltE (ltE hf r5 rfl) S4 rfl
  refine x_callSWc (As := [.ref (ad o1), .int (xs (Int32.toNatClampNeg (i + 1))), .int (xs (Int32.toNatClampNeg (i + 2))), .ref (ad o3)]) (rest := []) (o := (some (.int r5))) (S1 := S4) hC hl.1 hW hS hGs hA (c_L_partByte l hfl g ad n K H.size F S0 o1 (xs (Int32.toNatClampNeg (i + 1))) (xs (Int32.toNatClampNeg (i + 2))) o3 t1 t3 r5 S4 hz3) (vx_cwSW (hh := [(0, 10, 13, 31), (0, 10, 17, 84)]) 4 hts gL_law_L_partByte rfl rfl rfl (by decide +kernel) ⟨Nat.le_trans (Nat.le_of_ble_eq_true rfl) hRf, Nat.le_trans (Nat.le_of_ble_eq_true rfl) hRl⟩) rfl rfl (Nat.le_of_ble_eq_true rfl) dL_law_1700 ⟨by omega, by omega⟩ (fun H locs hPz3 hW hS => ?_)
  refine W.widen (k := cells + 2) (n := slots + 12) (by omega) (by omega) ?_
  refine W.eq (g2 := F0 m 1703 ls [.int r5]) rfl ?_
  refine lv_istore (lv' := [(6, .int r5), (5, .int i), (4, .ref (ad o4)), (3, .ref (ad o3)), (2, .ref (ad o2)), (1, .ref (ad o1)), (0, .ref b)]) hx hb dL_law_1703 hl (by decide) rfl (fun ls hl => ?_)
  refine lv_aload_n hx hb dL_law_1705 rfl (lv_at hl 4 rfl) ?_
  refine lv_aload_n hx hb dL_law_1706 rfl (lv_at hl 6 rfl) ?_
  refine lv_iload hx hb dL_law_1707 (lv_at hl 1 rfl) ?_
  refine lv_iconst (v := 1) hx hb dL_law_1709 (by decide) ?_
  refine lv_iadd hx hb dL_law_1710 ?_
  replace hf := ckiE hf
  obtain ⟨h7, hf⟩ := hf
  refine va_sld hx hb hX hbl hbA hS h7 dL_law_1711 ?_
  refine lv_aload_n hx hb dL_law_1712 rfl (lv_at hl 6 rfl) ?_
  refine lv_iload hx hb dL_law_1713 (lv_at hl 1 rfl) ?_
  refine lv_iconst (v := 2) hx hb dL_law_1715 (by decide) ?_
  refine lv_iadd hx hb dL_law_1716 ?_
  replace hf := ckiE hf
  obtain ⟨h8, hf⟩ := hf
  refine va_sld hx hb hX hbl hbA hS h8 dL_law_1717 ?_
  replace hf := obE hf
  obtain ⟨z9, hz9, hf⟩ := hf
  obtain ⟨r11, S10⟩ := z9
  replace hf := ltE (ltE hf r11 rfl) S10 rfl
  refine x_callV (As := [.int (xs (Int32.toNatClampNeg (i + 1))), .int (xs (Int32.toNatClampNeg (i + 2)))]) (rest := []) (o := (some (.int r11))) (S1 := S10) hC hl.1 hW hS hGs hA t2 rfl (show vwCl[10]? = some (RX11, TX11, 30) ∧ 10 < 11 from ⟨rfl, by decide⟩) (c_X11_partByte l g ad n K H.size F S4 o2 (xs (Int32.toNatClampNeg (i + 1))) (xs (Int32.toNatClampNeg (i + 2))) t2 r11 S10 hz9) (cwV 2 hts gL_law_X11_partByte rfl rfl rfl (by decide +kernel) ⟨Nat.le_trans (Nat.le_of_ble_eq_true rfl) hRf, Nat.le_trans (Nat.le_of_ble_eq_true rfl) hRl⟩) rfl rfl (Nat.le_of_ble_eq_true rfl) dL_law_1718 ⟨by omega, by omega⟩ (fun H locs hPz9 hW hS => ?_)
  refine W.eq (g2 := F0 m 1721 ls [.int r11]) rfl ?_
  refine lv_istore (lv' := [(7, .int r11), (6, .int r5), (5, .int i), (4, .ref (ad o4)), (3, .ref (ad o3)), (2, .ref (ad o2)), (1, .ref (ad o1)), (0, .ref b)]) hx hb dL_law_1721 hl (by decide) rfl (fun ls hl => ?_)
  refine lv_aload_n hx hb dL_law_1723 rfl (lv_at hl 5 rfl) ?_
  replace hf := obE hf
  obtain ⟨z13, hz13, hf⟩ := hf
  obtain ⟨r15, S14⟩ := z13
  replace hf := ltE (ltE hf r15 rfl) S14 rfl
  refine x_callV (As := []) (rest := []) (o := (some (.int r15))) (S1 := S14) hC hl.1 hW hS hGs hA t2 rfl (show vwCl[10]? = some (RX11, TX11, 30) ∧ 10 < 11 from ⟨rfl, by decide⟩) (c_X11_thrown l g ad n K H.size F S10 o2 t2 r15 S14 hz13) (cwV 0 hts gL_law_X11_thrown rfl rfl rfl (by decide +kernel) ⟨Nat.le_trans (Nat.le_of_ble_eq_true rfl) hRf, Nat.le_trans (Nat.le_of_ble_eq_true rfl) hRl⟩) rfl rfl (Nat.le_of_ble_eq_true rfl) dL_law_1724 ⟨by omega, by omega⟩ (fun H locs hPz13 hW hS => ?_)
  refine W.eq (g2 := F0 m 1727 ls [.int r15]) rfl ?_
  refine lv_iload hx hb dL_law_1727 (lv_at hl 1 rfl) ?_
  refine lv_icmp_eq (tgt := 1734) hx hb dL_law_1729 (by decide) (fun c17 => ?_) (fun c17 => ?_)
  · replace hf := ifT c17 hf
    refine lv_iload hx hb dL_law_1734 (lv_at hl 1 rfl) ?_
    refine lv_if_ne (tgt := 1751) hx hb dL_law_1736 (by decide) (fun c18 => ?_) (fun c18 => ?_)
    · replace hf := ifT c18 hf
      refine lv_goto (tgt := 3297) hx hb dL_law_1751 (by decide) ?_
      obtain ⟨e1, e2⟩ := so2 hf
      subst e1
      subst e2
      refine W.widen (k := cells + 20) (n := slots + 8189) (by omega) (by omega) ?_
      exact kk ad K _ _ ls Ag.rf hW hS (lv_sub hl [2, 3, 4, 5, 6, 7] rfl)
    · replace hf := ifF (fun q => q c18) hf
      refine lv_aload_n hx hb dL_law_1739 rfl (lv_at hl 4 rfl) ?_
      refine lv_iconst (v := 0) hx hb dL_law_1740 (by decide) ?_
      replace hf := ckiE hf
      obtain ⟨h19, hf⟩ := hf
      refine x_lald hC hW t3 rfl rfl h19 dL_law_1741 ?_
      refine lv_iload hx hb dL_law_1742 (lv_at hl 0 rfl) ?_
      refine lv_i2l (v := r11.toInt64) hx hb dL_law_1744 rfl ?_
      refine W.lcmp hx hb dL_law_1745 ?_
      refine lv_if_eq (tgt := 1751) hx hb dL_law_1746 (by decide) (fun c20 => ?_) (fun c20 => ?_)
      · replace hf := ifT c20 hf
        refine lv_goto (tgt := 3297) hx hb dL_law_1751 (by decide) ?_
        obtain ⟨e1, e2⟩ := so2 hf
        subst e1
        subst e2
        refine W.widen (k := cells + 20) (n := slots + 8189) (by omega) (by omega) ?_
        exact kk ad K _ _ ls Ag.rf hW hS (lv_sub hl [2, 3, 4, 5, 6, 7] rfl)
      · replace hf := ifF c20 hf
        refine lv_iconst (v := 0) hx hb dL_law_1749 (by decide) ?_
        cases hf
  · replace hf := ifF c17 hf
    refine lv_iconst (v := 0) hx hb dL_law_1732 (by decide) ?_
    cases hf
set_option maxHeartbeats 4000000 in
set_option maxRecDepth 100000 in
theorem c_law28 {p : Program} {e : Env} {R : Room} {s : State} {m : MethodId} {below : List Frame} {meth : Method} {c : Code} {Q : State → Prop} {b L : Nat} {xs : Nat → Int32} {H : Heap} {locs : List Loc} {ls : Array Slot} {cells slots : Nat} (l : Launch) (hfl : l.stackTraces = false) (g : GP) (ad : Nat → Nat) (n : Nat) (K : Nat → Nat) (F : Nat) (S0 : St) (o1 o2 o3 o4 : Nat) (i : Int32) (hC : Cx g p s m #[.ref b] c cL_law RL lw_tbl 9) (hX : va_X b L xs s s.heap) (hbl : b < s.heap.size) (hGs : GF g (fun q : Nat => s.heap.size ≤ q) s s.heap) (hW : Wb g ad n K S0 (fun q : Nat => s.heap.size ≤ q) H) (hS : va_S (fun q : Nat => s.heap.size ≤ q) s.heap H locs) (t1 : o1 < n ∧ K o1 = 9) (t2 : o2 < n ∧ K o2 = 10) (t3 : o3 < n ∧ K o3 = 13) (t4 : o4 < n ∧ K o4 = 17) (hl : lv_has ls 9 [(5, .int i), (4, .ref (ad o4)), (3, .ref (ad o3)), (2, .ref (ad o2)), (1, .ref (ad o1)), (0, .ref b)]) (hRf : 13 ≤ R.frames) (hRl : 280 ≤ R.locals) (hRc : cells + 20 ≤ R.cells) (hRs : slots + 8189 ≤ R.slots) (S9 : St) (n9 : Nat) (hf : f_law28 F xs L S0 n o1 o2 o3 o4 i = some (S9, n9))
    (kk : ∀ (ad9 K9 : Nat → Nat) (H1 : Heap) (locs1 : List Loc) (ls1 : Array Slot), Ag ad K n ad9 K9 n9 → Wb g ad9 n9 K9 S9 (fun q : Nat => s.heap.size ≤ q) H1 → va_S (fun q : Nat => s.heap.size ≤ q) s.heap H1 locs1 → lv_has ls1 9 [(5, .int i), (4, .ref (ad9 o4)), (3, .ref (ad9 o3)), (2, .ref (ad9 o2)), (1, .ref (ad9 o1)), (0, .ref b)] → W p l e R s m #[.ref b] below meth c H1 locs1 (cells + 20) (slots + 8189) Q (F0 m 3297 ls1 [])) :
    W p l e R s m #[.ref b] below meth c H locs cells slots Q (F0 m 1754 ls []) := by
  have hx := hC.1
  have hb := hC.2.1
  have hml := hC.2.2.1
  have hown : s.vm.findClass RL = some m.cls := hC.2.2.2.1
  have hts := hC.2.2.2.2.1
  have hK := hC.2.2.2.2.2
  have hA : ∀ q : Nat, s.heap.size ≤ q → (fun q : Nat => s.heap.size ≤ q) q := fun _ h => h
  have hbA : ¬ (fun q : Nat => s.heap.size ≤ q) b := Nat.not_le.mpr hbl
  unfold f_law28 at hf
  refine lv_aload_n hx hb dL_law_1754 rfl (lv_at hl 4 rfl) ?_
  refine lv_aload_n hx hb dL_law_1755 rfl (lv_at hl 5 rfl) ?_
  refine lv_iload hx hb dL_law_1756 (lv_at hl 0 rfl) ?_
  refine lv_iconst (v := 1) hx hb dL_law_1758 (by decide) ?_
  refine lv_iadd hx hb dL_law_1759 ?_
  replace hf := ckiE hf
  obtain ⟨h1, hf⟩ := hf
  refine va_sld hx hb hX hbl hbA hS h1 dL_law_1760 ?_
  refine lv_aload_n hx hb dL_law_1761 rfl (lv_at hl 2 rfl) ?_
  replace hf := obE hf
  obtain ⟨z2, hz2, hf⟩ := hf
  obtain ⟨r4, S3⟩ := z2
  replace hf := ltE (ltE hf r4 rfl) S3 rfl
  refine x_callSWc (As := [.ref (ad o1), .int (xs (Int32.toNatClampNeg (i + 1))), .ref (ad o3)]) (rest := []) (o := (some (.int r4))) (S1 := S3) hC hl.1 hW hS hGs hA (c_L_digest l hfl g ad n K H.size F S0 o1 (xs (Int32.toNatClampNeg (i + 1))) o3 t1 t3 r4 S3 hz2) (vx_cwSW (hh := [(0, 8, 11, 31)]) 3 hts gL_law_L_digest rfl rfl rfl (by decide +kernel) ⟨Nat.le_trans (Nat.le_of_ble_eq_true rfl) hRf, Nat.le_trans (Nat.le_of_ble_eq_true rfl) hRl⟩) rfl rfl (Nat.le_of_ble_eq_true rfl) dL_law_1762 ⟨by omega, by omega⟩ (fun H locs hPz2 hW hS => ?_)
  refine W.widen (k := cells + 1) (n := slots + 6) (by omega) (by omega) ?_
  refine W.eq (g2 := F0 m 1765 ls [.int r4]) rfl ?_
  refine lv_istore (lv' := [(6, .int r4), (5, .int i), (4, .ref (ad o4)), (3, .ref (ad o3)), (2, .ref (ad o2)), (1, .ref (ad o1)), (0, .ref b)]) hx hb dL_law_1765 hl (by decide) rfl (fun ls hl => ?_)
  refine lv_aload_n hx hb dL_law_1767 rfl (lv_at hl 4 rfl) ?_
  refine lv_aload_n hx hb dL_law_1768 rfl (lv_at hl 6 rfl) ?_
  refine lv_iload hx hb dL_law_1769 (lv_at hl 1 rfl) ?_
  refine lv_iconst (v := 1) hx hb dL_law_1771 (by decide) ?_
  refine lv_iadd hx hb dL_law_1772 ?_
  replace hf := ckiE hf
  obtain ⟨h6, hf⟩ := hf
  refine va_sld hx hb hX hbl hbA hS h6 dL_law_1773 ?_
  replace hf := obE hf
  obtain ⟨z7, hz7, hf⟩ := hf
  obtain ⟨r9, S8⟩ := z7
  replace hf := ltE (ltE hf r9 rfl) S8 rfl
  refine x_callV (As := [.int (xs (Int32.toNatClampNeg (i + 1)))]) (rest := []) (o := (some (.long (r9)))) (S1 := S8) hC hl.1 hW hS hGs hA t2 rfl (show vwCl[10]? = some (RX11, TX11, 30) ∧ 10 < 11 from ⟨rfl, by decide⟩) (c_X11_digest l g ad n K H.size F S3 o2 (xs (Int32.toNatClampNeg (i + 1))) t2 r9 S8 hz7) (cwV 1 hts gL_law_X11_digest rfl rfl rfl (by decide +kernel) ⟨Nat.le_trans (Nat.le_of_ble_eq_true rfl) hRf, Nat.le_trans (Nat.le_of_ble_eq_true rfl) hRl⟩) rfl rfl (Nat.le_of_ble_eq_true rfl) dL_law_1774 ⟨by omega, by omega⟩ (fun H locs hPz7 hW hS => ?_)
  refine W.eq (g2 := F0 m 1777 ls [.long (r9)]) rfl ?_
  refine lv_lstore (lv' := [(7, .long (r9)), (6, .int r4), (5, .int i), (4, .ref (ad o4)), (3, .ref (ad o3)), (2, .ref (ad o2)), (1, .ref (ad o1)), (0, .ref b)]) hx hb dL_law_1777 hl (by decide) rfl (fun ls hl => ?_)
  refine lv_aload_n hx hb dL_law_1779 rfl (lv_at hl 5 rfl) ?_
  replace hf := obE hf
  obtain ⟨z11, hz11, hf⟩ := hf
  obtain ⟨r13, S12⟩ := z11
  replace hf := ltE (ltE hf r13 rfl) S12 rfl
  refine x_callV (As := []) (rest := []) (o := (some (.int r13))) (S1 := S12) hC hl.1 hW hS hGs hA t2 rfl (show vwCl[10]? = some (RX11, TX11, 30) ∧ 10 < 11 from ⟨rfl, by decide⟩) (c_X11_thrown l g ad n K H.size F S8 o2 t2 r13 S12 hz11) (cwV 0 hts gL_law_X11_thrown rfl rfl rfl (by decide +kernel) ⟨Nat.le_trans (Nat.le_of_ble_eq_true rfl) hRf, Nat.le_trans (Nat.le_of_ble_eq_true rfl) hRl⟩) rfl rfl (Nat.le_of_ble_eq_true rfl) dL_law_1780 ⟨by omega, by omega⟩ (fun H locs hPz11 hW hS => ?_)
  refine W.eq (g2 := F0 m 1783 ls [.int r13]) rfl ?_
  refine lv_iload hx hb dL_law_1783 (lv_at hl 1 rfl) ?_
  refine lv_icmp_eq (tgt := 1790) hx hb dL_law_1785 (by decide) (fun c15 => ?_) (fun c15 => ?_)
  · replace hf := ifT c15 hf
    refine lv_iload hx hb dL_law_1790 (lv_at hl 1 rfl) ?_
    refine lv_if_ne (tgt := 1806) hx hb dL_law_1792 (by decide) (fun c16 => ?_) (fun c16 => ?_)
    · replace hf := ifT c16 hf
      refine lv_goto (tgt := 3297) hx hb dL_law_1806 (by decide) ?_
      obtain ⟨e1, e2⟩ := so2 hf
      subst e1
      subst e2
      refine W.widen (k := cells + 20) (n := slots + 8189) (by omega) (by omega) ?_
      exact kk ad K _ _ ls Ag.rf hW hS (lv_sub hl [2, 3, 4, 5, 6, 7] rfl)
    · replace hf := ifF (fun q => q c16) hf
      refine lv_aload_n hx hb dL_law_1795 rfl (lv_at hl 4 rfl) ?_
      refine lv_iconst (v := 0) hx hb dL_law_1796 (by decide) ?_
      replace hf := ckiE hf
      obtain ⟨h17, hf⟩ := hf
      refine x_lald hC hW t3 rfl rfl h17 dL_law_1797 ?_
      refine lv_lload hx hb dL_law_1798 (lv_at hl 0 rfl) ?_
      refine W.lcmp hx hb dL_law_1800 ?_
      refine lv_if_eq (tgt := 1806) hx hb dL_law_1801 (by decide) (fun c18 => ?_) (fun c18 => ?_)
      · replace hf := ifT c18 hf
        refine lv_goto (tgt := 3297) hx hb dL_law_1806 (by decide) ?_
        obtain ⟨e1, e2⟩ := so2 hf
        subst e1
        subst e2
        refine W.widen (k := cells + 20) (n := slots + 8189) (by omega) (by omega) ?_
        exact kk ad K _ _ ls Ag.rf hW hS (lv_sub hl [2, 3, 4, 5, 6, 7] rfl)
      · replace hf := ifF c18 hf
        refine lv_iconst (v := 0) hx hb dL_law_1804 (by decide) ?_
        cases hf
  · replace hf := ifF c15 hf
    refine lv_iconst (v := 0) hx hb dL_law_1788 (by decide) ?_
    cases hf
