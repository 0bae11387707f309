set_option maxHeartbeats 4000000 in
set_option maxRecDepth 100000 in
theorem c_law49 {p : Program} {e : Env} {R : Room} {s : State} {m : MethodId} {below : List Frame} {meth : Method} {c : Code} {Q : State → Prop} {b L : Nat} {xs : Nat → Int32} {H : Heap} {locs : List Loc} {ls : Array Slot} {cells slots : Nat} (l : Launch) (hfl : l.stackTraces = false) (g : GP) (ad : Nat → Nat) (n : Nat) (K : Nat → Nat) (F : Nat) (S0 : St) (o1 o2 o3 o4 : Nat) (i : Int32) (hC : Cx g p s m #[.ref b] c cL_law RL lw_tbl 9) (hX : va_X b L xs s s.heap) (hbl : b < s.heap.size) (hGs : GF g (fun q : Nat => s.heap.size ≤ q) s s.heap) (hW : Wb g ad n K S0 (fun q : Nat => s.heap.size ≤ q) H) (hS : va_S (fun q : Nat => s.heap.size ≤ q) s.heap H locs) (t1 : o1 < n ∧ K o1 = 9) (t2 : o2 < n ∧ K o2 = 10) (t3 : o3 < n ∧ K o3 = 13) (t4 : o4 < n ∧ K o4 = 17) (hl : lv_has ls 9 [(5, .int i), (4, .ref (ad o4)), (3, .ref (ad o3)), (2, .ref (ad o2)), (1, .ref (ad o1)), (0, .ref b)]) (hRf : 13 ≤ R.frames) (hRl : 280 ≤ R.locals) (hRc : cells + 20 ≤ R.cells) (hRs : slots + 8189 ≤ R.slots) (S9 : St) (n9 : Nat) (hf : f_law49 F xs L S0 n o1 o2 o3 o4 i = some (S9, n9))
    (kk : ∀ (ad9 K9 : Nat → Nat) (H1 : Heap) (locs1 : List Loc) (ls1 : Array Slot), Ag ad K n ad9 K9 n9 → Wb g ad9 n9 K9 S9 (fun q : Nat => s.heap.size ≤ q) H1 → va_S (fun q : Nat => s.heap.size ≤ q) s.heap H1 locs1 → lv_has ls1 9 [(5, .int i), (4, .ref (ad9 o4)), (3, .ref (ad9 o3)), (2, .ref (ad9 o2)), (1, .ref (ad9 o1)), (0, .ref b)] → W p l e R s m #[.ref b] below meth c H1 locs1 (cells + 20) (slots + 8189) Q (F0 m 3297 ls1 [])) :
    W p l e R s m #[.ref b] below meth c H locs cells slots Q (F0 m 2854 ls []) := by
  have hx := hC.1
  have hb := hC.2.1
  have hml := hC.2.2.1
  have hown : s.vm.findClass RL = some m.cls := hC.2.2.2.1
  have hts := hC.2.2.2.2.1
  have hK := hC.2.2.2.2.2
  have hA : ∀ q : Nat, s.heap.size ≤ q → (fun q : Nat => s.heap.size ≤ q) q := fun _ h => h
  have hbA : ¬ (fun q : Nat => s.heap.size ≤ q) b := Nat.not_le.mpr hbl
  unfold f_law49 at hf
  refine lv_aload_n hx hb dL_law_2854 rfl (lv_at hl 4 rfl) ?_
  replace hf := obE hf
  obtain ⟨z1, hz1, hf⟩ := hf
  obtain ⟨r3, S2⟩ := z1
  replace hf := ltE (ltE hf r3 rfl) S2 rfl
  refine x_callV (As := []) (rest := []) (o := (some (.int r3))) (S1 := S2) hC hl.1 hW hS hGs hA t1 rfl (show vwCl[9]? = some (RX10, TX10, 11) ∧ 9 < 11 from ⟨rfl, by decide⟩) (c_X10_emptyOn l g ad n K H.size F S0 o1 t1 r3 S2 hz1) (cwV 0 hts gL_law_X10_emptyOn rfl rfl rfl (by decide +kernel) ⟨Nat.le_trans (Nat.le_of_ble_eq_true rfl) hRf, Nat.le_trans (Nat.le_of_ble_eq_true rfl) hRl⟩) rfl rfl (Nat.le_of_ble_eq_true rfl) dL_law_2855 ⟨by omega, by omega⟩ (fun H locs hPz1 hW hS => ?_)
  refine W.eq (g2 := F0 m 2858 ls [.int r3]) rfl ?_
  refine lv_aload_n hx hb dL_law_2858 rfl (lv_at hl 3 rfl) ?_
  replace hf := obE hf
  obtain ⟨z5, hz5, hf⟩ := hf
  obtain ⟨r7, S6⟩ := z5
  replace hf := ltE (ltE hf r7 rfl) S6 rfl
  refine x_callV (As := []) (rest := [.int r3]) (o := (some (.int r7))) (S1 := S6) hC hl.1 hW hS hGs hA t2 rfl (show vwCl[10]? = some (RX11, TX11, 30) ∧ 10 < 11 from ⟨rfl, by decide⟩) (c_X11_emptyOn l g ad n K H.size F S2 o2 t2 r7 S6 hz5) (cwV 0 hts gL_law_X11_emptyOn rfl rfl rfl (by decide +kernel) ⟨Nat.le_trans (Nat.le_of_ble_eq_true rfl) hRf, Nat.le_trans (Nat.le_of_ble_eq_true rfl) hRl⟩) rfl rfl (Nat.le_of_ble_eq_true rfl) dL_law_2859 ⟨by omega, by omega⟩ (fun H locs hPz5 hW hS => ?_)
  refine W.eq (g2 := F0 m 2862 ls [.int r7, .int r3]) rfl ?_
  refine lv_icmp_eq (tgt := 3297) hx hb dL_law_2862 (by decide) (fun c9 => ?_) (fun c9 => ?_)
  · replace hf := ifT c9 hf
    obtain ⟨e1, e2⟩ := so2 hf
    subst e1
    subst e2
    refine W.widen (k := cells + 20) (n := slots + 8189) (by omega) (by omega) ?_
    exact kk ad K _ _ ls Ag.rf hW hS (lv_sub hl [0, 1, 2, 3, 4, 5] rfl)
  · replace hf := ifF c9 hf
    refine lv_iconst (v := 0) hx hb dL_law_2865 (by decide) ?_
    cases hf
set_option maxHeartbeats 4000000 in
set_option maxRecDepth 100000 in
theorem c_law50 {p : Program} {e : Env} {R : Room} {s : State} {m : MethodId} {below : List Frame} {meth : Method} {c : Code} {Q : State → Prop} {b L : Nat} {xs : Nat → Int32} {H : Heap} {locs : List Loc} {ls : Array Slot} {cells slots : Nat} (l : Launch) (hfl : l.stackTraces = false) (g : GP) (ad : Nat → Nat) (n : Nat) (K : Nat → Nat) (F : Nat) (S0 : St) (o1 o2 o3 o4 : Nat) (i : Int32) (hC : Cx g p s m #[.ref b] c cL_law RL lw_tbl 9) (hX : va_X b L xs s s.heap) (hbl : b < s.heap.size) (hGs : GF g (fun q : Nat => s.heap.size ≤ q) s s.heap) (hW : Wb g ad n K S0 (fun q : Nat => s.heap.size ≤ q) H) (hS : va_S (fun q : Nat => s.heap.size ≤ q) s.heap H locs) (t1 : o1 < n ∧ K o1 = 9) (t2 : o2 < n ∧ K o2 = 10) (t3 : o3 < n ∧ K o3 = 13) (t4 : o4 < n ∧ K o4 = 17) (hl : lv_has ls 9 [(5, .int i), (4, .ref (ad o4)), (3, .ref (ad o3)), (2, .ref (ad o2)), (1, .ref (ad o1)), (0, .ref b)]) (hRf : 13 ≤ R.frames) (hRl : 280 ≤ R.locals) (hRc : cells + 20 ≤ R.cells) (hRs : slots + 8189 ≤ R.slots) (S9 : St) (n9 : Nat) (hf : f_law50 F xs L S0 n o1 o2 o3 o4 i = some (S9, n9))
    (kk : ∀ (ad9 K9 : Nat → Nat) (H1 : Heap) (locs1 : List Loc) (ls1 : Array Slot), Ag ad K n ad9 K9 n9 → Wb g ad9 n9 K9 S9 (fun q : Nat => s.heap.size ≤ q) H1 → va_S (fun q : Nat => s.heap.size ≤ q) s.heap H1 locs1 → lv_has ls1 9 [(5, .int i), (4, .ref (ad9 o4)), (3, .ref (ad9 o3)), (2, .ref (ad9 o2)), (1, .ref (ad9 o1)), (0, .ref b)] → W p l e R s m #[.ref b] below meth c H1 locs1 (cells + 20) (slots + 8189) Q (F0 m 3297 ls1 [])) :
    W p l e R s m #[.ref b] below meth c H locs cells slots Q (F0 m 2867 ls []) := by
  have hx := hC.1
  have hb := hC.2.1
  have hml := hC.2.2.1
  have hown : s.vm.findClass RL = some m.cls := hC.2.2.2.1
  have hts := hC.2.2.2.2.1
  have hK := hC.2.2.2.2.2
  have hA : ∀ q : Nat, s.heap.size ≤ q → (fun q : Nat => s.heap.size ≤ q) q := fun _ h => h
  have hbA : ¬ (fun q : Nat => s.heap.size ≤ q) b := Nat.not_le.mpr hbl
  unfold f_law50 at hf
  refine lv_aload_n hx hb dL_law_2867 rfl (lv_at hl 4 rfl) ?_
  refine lv_aload_n hx hb dL_law_2868 rfl (lv_at hl 5 rfl) ?_
  refine lv_iload hx hb dL_law_2869 (lv_at hl 0 rfl) ?_
  refine lv_iconst (v := 1) hx hb dL_law_2871 (by decide) ?_
  refine lv_iadd hx hb dL_law_2872 ?_
  replace hf := ckiE hf
  obtain ⟨h1, hf⟩ := hf
  refine va_sld hx hb hX hbl hbA hS h1 dL_law_2873 ?_
  refine lv_aload_n hx hb dL_law_2874 rfl (lv_at hl 2 rfl) ?_
  replace hf := obE hf
  obtain ⟨z2, hz2, hf⟩ := hf
  obtain ⟨r4, S3⟩ := z2
  replace hf := ltE (ltE hf r4 rfl) S3 rfl
  refine x_callSWc (As := [.ref (ad o1), .int (xs (Int32.toNatClampNeg (i + 1))), .ref (ad o3)]) (rest := []) (o := (some (.int r4))) (S1 := S3) hC hl.1 hW hS hGs hA (c_L_bytesAfter l hfl g ad n K H.size F S0 o1 (xs (Int32.toNatClampNeg (i + 1))) o3 t1 t3 r4 S3 hz2) (vx_cwSW (hh := [(0, 9, 12, 19)]) 3 hts gL_law_L_bytesAfter rfl rfl rfl (by decide +kernel) ⟨Nat.le_trans (Nat.le_of_ble_eq_true rfl) hRf, Nat.le_trans (Nat.le_of_ble_eq_true rfl) hRl⟩) rfl rfl (Nat.le_of_ble_eq_true rfl) dL_law_2875 ⟨by omega, by omega⟩ (fun H locs hPz2 hW hS => ?_)
  refine W.widen (k := cells + 1) (n := slots + 6) (by omega) (by omega) ?_
  refine W.eq (g2 := F0 m 2878 ls [.int r4]) rfl ?_
  refine lv_istore (lv' := [(6, .int r4), (5, .int i), (4, .ref (ad o4)), (3, .ref (ad o3)), (2, .ref (ad o2)), (1, .ref (ad o1)), (0, .ref b)]) hx hb dL_law_2878 hl (by decide) rfl (fun ls hl => ?_)
  refine lv_aload_n hx hb dL_law_2880 rfl (lv_at hl 4 rfl) ?_
  refine lv_aload_n hx hb dL_law_2881 rfl (lv_at hl 6 rfl) ?_
  refine lv_iload hx hb dL_law_2882 (lv_at hl 1 rfl) ?_
  refine lv_iconst (v := 1) hx hb dL_law_2884 (by decide) ?_
  refine lv_iadd hx hb dL_law_2885 ?_
  replace hf := ckiE hf
  obtain ⟨h6, hf⟩ := hf
  refine va_sld hx hb hX hbl hbA hS h6 dL_law_2886 ?_
  replace hf := obE hf
  obtain ⟨z7, hz7, hf⟩ := hf
  obtain ⟨r9, S8⟩ := z7
  replace hf := ltE (ltE hf r9 rfl) S8 rfl
  refine x_callV (As := [.int (xs (Int32.toNatClampNeg (i + 1)))]) (rest := []) (o := (some (.int r9))) (S1 := S8) hC hl.1 hW hS hGs hA t2 rfl (show vwCl[10]? = some (RX11, TX11, 30) ∧ 10 < 11 from ⟨rfl, by decide⟩) (c_X11_bytesAfter l g ad n K H.size F S3 o2 (xs (Int32.toNatClampNeg (i + 1))) t2 r9 S8 hz7) (cwV 1 hts gL_law_X11_bytesAfter rfl rfl rfl (by decide +kernel) ⟨Nat.le_trans (Nat.le_of_ble_eq_true rfl) hRf, Nat.le_trans (Nat.le_of_ble_eq_true rfl) hRl⟩) rfl rfl (Nat.le_of_ble_eq_true rfl) dL_law_2887 ⟨by omega, by omega⟩ (fun H locs hPz7 hW hS => ?_)
  refine W.eq (g2 := F0 m 2890 ls [.int r9]) rfl ?_
  refine lv_istore (lv' := [(7, .int r9), (6, .int r4), (5, .int i), (4, .ref (ad o4)), (3, .ref (ad o3)), (2, .ref (ad o2)), (1, .ref (ad o1)), (0, .ref b)]) hx hb dL_law_2890 hl (by decide) rfl (fun ls hl => ?_)
  refine lv_aload_n hx hb dL_law_2892 rfl (lv_at hl 5 rfl) ?_
  replace hf := obE hf
  obtain ⟨z11, hz11, hf⟩ := hf
  obtain ⟨r13, S12⟩ := z11
  replace hf := ltE (ltE hf r13 rfl) S12 rfl
  refine x_callV (As := []) (rest := []) (o := (some (.int r13))) (S1 := S12) hC hl.1 hW hS hGs hA t2 rfl (show vwCl[10]? = some (RX11, TX11, 30) ∧ 10 < 11 from ⟨rfl, by decide⟩) (c_X11_thrown l g ad n K H.size F S8 o2 t2 r13 S12 hz11) (cwV 0 hts gL_law_X11_thrown rfl rfl rfl (by decide +kernel) ⟨Nat.le_trans (Nat.le_of_ble_eq_true rfl) hRf, Nat.le_trans (Nat.le_of_ble_eq_true rfl) hRl⟩) rfl rfl (Nat.le_of_ble_eq_true rfl) dL_law_2893 ⟨by omega, by omega⟩ (fun H locs hPz11 hW hS => ?_)
  refine W.eq (g2 := F0 m 2896 ls [.int r13]) rfl ?_
  refine lv_iload hx hb dL_law_2896 (lv_at hl 1 rfl) ?_
  refine lv_icmp_eq (tgt := 2903) hx hb dL_law_2898 (by decide) (fun c15 => ?_) (fun c15 => ?_)
  · replace hf := ifT c15 hf
    refine lv_iload hx hb dL_law_2903 (lv_at hl 1 rfl) ?_
    refine lv_if_ne (tgt := 2920) hx hb dL_law_2905 (by decide) (fun c16 => ?_) (fun c16 => ?_)
    · replace hf := ifT c16 hf
      refine lv_goto (tgt := 3297) hx hb dL_law_2920 (by decide) ?_
      obtain ⟨e1, e2⟩ := so2 hf
      subst e1
      subst e2
      refine W.widen (k := cells + 20) (n := slots + 8189) (by omega) (by omega) ?_
      exact kk ad K _ _ ls Ag.rf hW hS (lv_sub hl [2, 3, 4, 5, 6, 7] rfl)
    · replace hf := ifF (fun q => q c16) hf
      refine lv_aload_n hx hb dL_law_2908 rfl (lv_at hl 4 rfl) ?_
      refine lv_iconst (v := 0) hx hb dL_law_2909 (by decide) ?_
      replace hf := ckiE hf
      obtain ⟨h17, hf⟩ := hf
      refine x_lald hC hW t3 rfl rfl h17 dL_law_2910 ?_
      refine lv_iload hx hb dL_law_2911 (lv_at hl 0 rfl) ?_
      refine lv_i2l (v := r9.toInt64) hx hb dL_law_2913 rfl ?_
      refine W.lcmp hx hb dL_law_2914 ?_
      refine lv_if_eq (tgt := 2920) hx hb dL_law_2915 (by decide) (fun c18 => ?_) (fun c18 => ?_)
      · replace hf := ifT c18 hf
        refine lv_goto (tgt := 3297) hx hb dL_law_2920 (by decide) ?_
        obtain ⟨e1, e2⟩ := so2 hf
        subst e1
        subst e2
        refine W.widen (k := cells + 20) (n := slots + 8189) (by omega) (by omega) ?_
        exact kk ad K _ _ ls Ag.rf hW hS (lv_sub hl [2, 3, 4, 5, 6, 7] rfl)
      · replace hf := ifF c18 hf
        refine lv_iconst (v := 0) hx hb dL_law_2918 (by decide) ?_
        cases hf
  · replace hf := ifF c15 hf
    refine lv_iconst (v := 0) hx hb dL_law_2901 (by decide) ?_
    cases hf
set_option maxHeartbeats 4000000 in
set_option maxRecDepth 100000 in
theorem c_law51 {p : Program} {e : Env} {R : Room} {s : State} {m : MethodId} {below : List Frame} {meth : Method} {c : Code} {Q : State → Prop} {b L : Nat} {xs : Nat → Int32} {H : Heap} {locs : List Loc} {ls : Array Slot} {cells slots : Nat} (l : Launch) (hfl : l.stackTraces = false) (g : GP) (ad : Nat → Nat) (n : Nat) (K : Nat → Nat) (F : Nat) (S0 : St) (o1 o2 o3 o4 : Nat) (i : Int32) (hC : Cx g p s m #[.ref b] c cL_law RL lw_tbl 9) (hX : va_X b L xs s s.heap) (hbl : b < s.heap.size) (hGs : GF g (fun q : Nat => s.heap.size ≤ q) s s.heap) (hW : Wb g ad n K S0 (fun q : Nat => s.heap.size ≤ q) H) (hS : va_S (fun q : Nat => s.heap.size ≤ q) s.heap H locs) (t1 : o1 < n ∧ K o1 = 9) (t2 : o2 < n ∧ K o2 = 10) (t3 : o3 < n ∧ K o3 = 13) (t4 : o4 < n ∧ K o4 = 17) (hl : lv_has ls 9 [(5, .int i), (4, .ref (ad o4)), (3, .ref (ad o3)), (2, .ref (ad o2)), (1, .ref (ad o1)), (0, .ref b)]) (hRf : 13 ≤ R.frames) (hRl : 280 ≤ R.locals) (hRc : cells + 20 ≤ R.cells) (hRs : slots + 8189 ≤ R.slots) (S9 : St) (n9 : Nat) (hf : f_law51 F xs L S0 n o1 o2 o3 o4 i = some (S9, n9))
    (kk : ∀ (ad9 K9 : Nat → Nat) (H1 : Heap) (locs1 : List Loc) (ls1 : Array Slot), Ag ad K n ad9 K9 n9 → Wb g ad9 n9 K9 S9 (fun q : Nat => s.heap.size ≤ q) H1 → va_S (fun q : Nat => s.heap.size ≤ q) s.heap H1 locs1 → lv_has ls1 9 [(5, .int i), (4, .ref (ad9 o4)), (3, .ref (ad9 o3)), (2, .ref (ad9 o2)), (1, .ref (ad9 o1)), (0, .ref b)] → W p l e R s m #[.ref b] below meth c H1 locs1 (cells + 20) (slots + 8189) Q (F0 m 3297 ls1 [])) :
    W p l e R s m #[.ref b] below meth c H locs cells slots Q (F0 m 2923 ls []) := by
  have hx := hC.1
  have hb := hC.2.1
  have hml := hC.2.2.1
  have hown : s.vm.findClass RL = some m.cls := hC.2.2.2.1
  have hts := hC.2.2.2.2.1
  have hK := hC.2.2.2.2.2
  have hA : ∀ q : Nat, s.heap.size ≤ q → (fun q : Nat => s.heap.size ≤ q) q := fun _ h => h
  have hbA : ¬ (fun q : Nat => s.heap.size ≤ q) b := Nat.not_le.mpr hbl
  unfold f_law51 at hf
  refine lv_aload_n hx hb dL_law_2923 rfl (lv_at hl 4 rfl) ?_
  refine lv_aload_n hx hb dL_law_2924 rfl (lv_at hl 5 rfl) ?_
  refine lv_iload hx hb dL_law_2925 (lv_at hl 0 rfl) ?_
  refine lv_iconst (v := 1) hx hb dL_law_2927 (by decide) ?_
  refine lv_iadd hx hb dL_law_2928 ?_
  replace hf := ckiE hf
  obtain ⟨h1, hf⟩ := hf
  refine va_sld hx hb hX hbl hbA hS h1 dL_law_2929 ?_
  refine lv_aload_n hx hb dL_law_2930 rfl (lv_at hl 5 rfl) ?_
  refine lv_iload hx hb dL_law_2931 (lv_at hl 0 rfl) ?_
  refine lv_iconst (v := 2) hx hb dL_law_2933 (by decide) ?_
  refine lv_iadd hx hb dL_law_2934 ?_
  replace hf := ckiE hf
  obtain ⟨h2, hf⟩ := hf
  refine va_sld hx hb hX hbl hbA hS h2 dL_law_2935 ?_
  refine lv_aload_n hx hb dL_law_2936 rfl (lv_at hl 2 rfl) ?_
  replace hf := obE hf
  obtain ⟨z3, hz3, hf⟩ := hf
  obtain ⟨r5, S4⟩ := z3
  replace hf := ltE (ltE hf r5 rfl) S4 rfl
  refine x_callSWc (As := [.ref (ad o1), .int (xs (Int32.toNatClampNeg (i + 1))), .int (xs (Int32.toNatClampNeg (i + 2))), .ref (ad o3)]) (rest := []) (o := (some (.int r5))) (S1 := S4) hC hl.1 hW hS hGs hA (c_L_goneAfter l hfl g ad n K H.size F S0 o1 (xs (Int32.toNatClampNeg (i + 1))) (xs (Int32.toNatClampNeg (i + 2))) o3 t1 t3 r5 S4 hz3) (vx_cwSW (hh := [(0, 10, 13, 31), (0, 10, 17, 19)]) 4 hts gL_law_L_goneAfter rfl rfl rfl (by decide +kernel) ⟨Nat.le_trans (Nat.le_of_ble_eq_true rfl) hRf, Nat.le_trans (Nat.le_of_ble_eq_true rfl) hRl⟩) rfl rfl (Nat.le_of_ble_eq_true rfl) dL_law_2937 ⟨by omega, by omega⟩ (fun H locs hPz3 hW hS => ?_)
  refine W.widen (k := cells + 2) (n := slots + 12) (by omega) (by omega) ?_
  refine W.eq (g2 := F0 m 2940 ls [.int r5]) rfl ?_
  refine lv_istore (lv' := [(6, .int r5), (5, .int i), (4, .ref (ad o4)), (3, .ref (ad o3)), (2, .ref (ad o2)), (1, .ref (ad o1)), (0, .ref b)]) hx hb dL_law_2940 hl (by decide) rfl (fun ls hl => ?_)
  refine lv_aload_n hx hb dL_law_2942 rfl (lv_at hl 4 rfl) ?_
  refine lv_aload_n hx hb dL_law_2943 rfl (lv_at hl 6 rfl) ?_
  refine lv_iload hx hb dL_law_2944 (lv_at hl 1 rfl) ?_
  refine lv_iconst (v := 1) hx hb dL_law_2946 (by decide) ?_
  refine lv_iadd hx hb dL_law_2947 ?_
  replace hf := ckiE hf
  obtain ⟨h7, hf⟩ := hf
  refine va_sld hx hb hX hbl hbA hS h7 dL_law_2948 ?_
  refine lv_aload_n hx hb dL_law_2949 rfl (lv_at hl 6 rfl) ?_
  refine lv_iload hx hb dL_law_2950 (lv_at hl 1 rfl) ?_
  refine lv_iconst (v := 2) hx hb dL_law_2952 (by decide) ?_
  refine lv_iadd hx hb dL_law_2953 ?_
  replace hf := ckiE hf
  obtain ⟨h8, hf⟩ := hf
  refine va_sld hx hb hX hbl hbA hS h8 dL_law_2954 ?_
  replace hf := obE hf
  obtain ⟨z9, hz9, hf⟩ := hf
  obtain ⟨r11, S10⟩ := z9
  replace hf := ltE (ltE hf r11 rfl) S10 rfl
  refine x_callV (As := [.int (xs (Int32.toNatClampNeg (i + 1))), .int (xs (Int32.toNatClampNeg (i + 2)))]) (rest := []) (o := (some (.int r11))) (S1 := S10) hC hl.1 hW hS hGs hA t2 rfl (show vwCl[10]? = some (RX11, TX11, 30) ∧ 10 < 11 from ⟨rfl, by decide⟩) (c_X11_goneAfter l g ad n K H.size F S4 o2 (xs (Int32.toNatClampNeg (i + 1))) (xs (Int32.toNatClampNeg (i + 2))) t2 r11 S10 hz9) (cwV 2 hts gL_law_X11_goneAfter rfl rfl rfl (by decide +kernel) ⟨Nat.le_trans (Nat.le_of_ble_eq_true rfl) hRf, Nat.le_trans (Nat.le_of_ble_eq_true rfl) hRl⟩) rfl rfl (Nat.le_of_ble_eq_true rfl) dL_law_2955 ⟨by omega, by omega⟩ (fun H locs hPz9 hW hS => ?_)
  refine W.eq (g2 := F0 m 2958 ls [.int r11]) rfl ?_
  refine lv_istore (lv' := [(7, .int r11), (6, .int r5), (5, .int i), (4, .ref (ad o4)), (3, .ref (ad o3)), (2, .ref (ad o2)), (1, .ref (ad o1)), (0, .ref b)]) hx hb dL_law_2958 hl (by decide) rfl (fun ls hl => ?_)
  refine lv_aload_n hx hb dL_law_2960 rfl (lv_at hl 5 rfl) ?_
  replace hf := obE hf
  obtain ⟨z13, hz13, hf⟩ := hf
  obtain ⟨r15, S14⟩ := z13
  replace hf := ltE (ltE hf r15 rfl) S14 rfl
  refine x_callV (As := []) (rest := []) (o := (some (.int r15))) (S1 := S14) hC hl.1 hW hS hGs hA t2 rfl (show vwCl[10]? = some (RX11, TX11, 30) ∧ 10 < 11 from ⟨rfl, by decide⟩) (c_X11_thrown l g ad n K H.size F S10 o2 t2 r15 S14 hz13) (cwV 0 hts gL_law_X11_thrown rfl rfl rfl (by decide +kernel) ⟨Nat.le_trans (Nat.le_of_ble_eq_true rfl) hRf, Nat.le_trans (Nat.le_of_ble_eq_true rfl) hRl⟩) rfl rfl (Nat.le_of_ble_eq_true rfl) dL_law_2961 ⟨by omega, by omega⟩ (fun H locs hPz13 hW hS => ?_)
  refine W.eq (g2 := F0 m 2964 ls [.int r15]) rfl ?_
  refine lv_iload hx hb dL_law_2964 (lv_at hl 1 rfl) ?_
  refine lv_icmp_eq (tgt := 2971) hx hb dL_law_2966 (by decide) (fun c17 => ?_) (fun c17 => ?_)
  · replace hf := ifT c17 hf
    refine lv_iload hx hb dL_law_2971 (lv_at hl 1 rfl) ?_
    refine lv_if_ne (tgt := 2988) hx hb dL_law_2973 (by decide) (fun c18 => ?_) (fun c18 => ?_)
    · replace hf := ifT c18 hf
      refine lv_goto (tgt := 3297) hx hb dL_law_2988 (by decide) ?_
      obtain ⟨e1, e2⟩ := so2 hf
      subst e1
      subst e2
      refine W.widen (k := cells + 20) (n := slots + 8189) (by omega) (by omega) ?_
      exact kk ad K _ _ ls Ag.rf hW hS (lv_sub hl [2, 3, 4, 5, 6, 7] rfl)
    · replace hf := ifF (fun q => q c18) hf
      refine lv_aload_n hx hb dL_law_2976 rfl (lv_at hl 4 rfl) ?_
      refine lv_iconst (v := 0) hx hb dL_law_2977 (by decide) ?_
      replace hf := ckiE hf
      obtain ⟨h19, hf⟩ := hf
      refine x_lald hC hW t3 rfl rfl h19 dL_law_2978 ?_
      refine lv_iload hx hb dL_law_2979 (lv_at hl 0 rfl) ?_
      refine lv_i2l (v := r11.toInt64) hx hb dL_law_2981 rfl ?_
      refine W.lcmp hx hb dL_law_2982 ?_
      refine lv_if_eq (tgt := 2988) hx hb dL_law_2983 (by decide) (fun c20 => ?_) (fun c20 => ?_)
      · replace hf := ifT c20 hf
        refine lv_goto (tgt := 3297) hx hb dL_law_2988 (by decide) ?_
        obtain ⟨e1, e2⟩ := so2 hf
        subst e1
        subst e2
        refine W.widen (k := cells + 20) (n := slots + 8189) (by omega) (by omega) ?_
        exact kk ad K _ _ ls Ag.rf hW hS (lv_sub hl [2, 3, 4, 5, 6, 7] rfl)
      · replace hf := ifF c20 hf
        refine lv_iconst (v := 0) hx hb dL_law_2986 (by decide) ?_
        cases hf
  · replace hf := ifF c17 hf
    refine lv_iconst (v := 0) hx hb dL_law_2969 (by decide) ?_
    cases hf
set_option maxHeartbeats 4000000 in
set_option maxRecDepth 100000 in
theorem c_law52 {p : Program} {e : Env} {R : Room} {s : State} {m : MethodId} {below : List Frame} {meth : Method} {c : Code} {Q : State → Prop} {b L : Nat} {xs : Nat → Int32} {H : Heap} {locs : List Loc} {ls : Array Slot} {cells slots : Nat} (l : Launch) (hfl : l.stackTraces = false) (g : GP) (ad : Nat → Nat) (n : Nat) (K : Nat → Nat) (F : Nat) (S0 : St) (o1 o2 o3 o4 : Nat) (i : Int32) (hC : Cx g p s m #[.ref b] c cL_law RL lw_tbl 9) (hX : va_X b L xs s s.heap) (hbl : b < s.heap.size) (hGs : GF g (fun q : Nat => s.heap.size ≤ q) s s.heap) (hW : Wb g ad n K S0 (fun q : Nat => s.heap.size ≤ q) H) (hS : va_S (fun q : Nat => s.heap.size ≤ q) s.heap H locs) (t1 : o1 < n ∧ K o1 = 9) (t2 : o2 < n ∧ K o2 = 10) (t3 : o3 < n ∧ K o3 = 13) (t4 : o4 < n ∧ K o4 = 17) (hl : lv_has ls 9 [(5, .int i), (4, .ref (ad o4)), (3, .ref (ad o3)), (2, .ref (ad o2)), (1, .ref (ad o1)), (0, .ref b)]) (hRf : 13 ≤ R.frames) (hRl : 280 ≤ R.locals) (hRc : cells + 20 ≤ R.cells) (hRs : slots + 8189 ≤ R.slots) (S9 : St) (n9 : Nat) (hf : f_law52 F xs L S0 n o1 o2 o3 o4 i = some (S9, n9))
    (kk : ∀ (ad9 K9 : Nat → Nat) (H1 : Heap) (locs1 : List Loc) (ls1 : Array Slot), Ag ad K n ad9 K9 n9 → Wb g ad9 n9 K9 S9 (fun q : Nat => s.heap.size ≤ q) H1 → va_S (fun q : Nat => s.heap.size ≤ q) s.heap H1 locs1 → lv_has ls1 9 [(5, .int i), (4, .ref (ad9 o4)), (3, .ref (ad9 o3)), (2, .ref (ad9 o2)), (1, .ref (ad9 o1)), (0, .ref b)] → W p l e R s m #[.ref b] below meth c H1 locs1 (cells + 20) (slots + 8189) Q (F0 m 3297 ls1 [])) :
    W p l e R s m #[.ref b] below meth c H locs cells slots Q (F0 m 2991 ls []) := by
  have hx := hC.1
  have hb := hC.2.1
  have hml := hC.2.2.1
  have hown : s.vm.findClass RL = some m.cls := hC.2.2.2.1
  have hts := hC.2.2.2.2.1
  have hK := hC.2.2.2.2.2
  have hA : ∀ q : Nat, s.heap.size ≤ q → (fun q : Nat => s.heap.size ≤ q) q := fun _ h => h
  have hbA : ¬ (fun q : Nat => s.heap.size ≤ q) b := Nat.not_le.mpr hbl
  unfold f_law52 at hf
  refine lv_aload_n hx hb dL_law_2991 rfl (lv_at hl 4 rfl) ?_
  replace hf := obE hf
  obtain ⟨z1, hz1, hf⟩ := hf
  obtain ⟨r3, S2⟩ := z1
  replace hf := ltE (ltE hf r3 rfl) S2 rfl
  refine x_callV (As := []) (rest := []) (o := (some (.int r3))) (S1 := S2) hC hl.1 hW hS hGs hA t1 rfl (show vwCl[9]? = some (RX10, TX10, 11) ∧ 9 < 11 from ⟨rfl, by decide⟩) (c_X10_eventCount l g ad n K H.size F S0 o1 t1 r3 S2 hz1) (cwV 0 hts gL_law_X10_eventCount rfl rfl rfl (by decide +kernel) ⟨Nat.le_trans (Nat.le_of_ble_eq_true rfl) hRf, Nat.le_trans (Nat.le_of_ble_eq_true rfl) hRl⟩) rfl rfl (Nat.le_of_ble_eq_true rfl) dL_law_2992 ⟨by omega, by omega⟩ (fun H locs hPz1 hW hS => ?_)
  refine W.eq (g2 := F0 m 2995 ls [.int r3]) rfl ?_
  refine lv_aload_n hx hb dL_law_2995 rfl (lv_at hl 3 rfl) ?_
  replace hf := obE hf
  obtain ⟨z5, hz5, hf⟩ := hf
  obtain ⟨r7, S6⟩ := z5
  replace hf := ltE (ltE hf r7 rfl) S6 rfl
  refine x_callV (As := []) (rest := [.int r3]) (o := (some (.int r7))) (S1 := S6) hC hl.1 hW hS hGs hA t2 rfl (show vwCl[10]? = some (RX11, TX11, 30) ∧ 10 < 11 from ⟨rfl, by decide⟩) (c_X11_eventCount l g ad n K H.size F S2 o2 t2 r7 S6 hz5) (cwV 0 hts gL_law_X11_eventCount rfl rfl rfl (by decide +kernel) ⟨Nat.le_trans (Nat.le_of_ble_eq_true rfl) hRf, Nat.le_trans (Nat.le_of_ble_eq_true rfl) hRl⟩) rfl rfl (Nat.le_of_ble_eq_true rfl) dL_law_2996 ⟨by omega, by omega⟩ (fun H locs hPz5 hW hS => ?_)
  refine W.eq (g2 := F0 m 2999 ls [.int r7, .int r3]) rfl ?_
  refine lv_icmp_eq (tgt := 3297) hx hb dL_law_2999 (by decide) (fun c9 => ?_) (fun c9 => ?_)
  · replace hf := ifT c9 hf
    obtain ⟨e1, e2⟩ := so2 hf
    subst e1
    subst e2
    refine W.widen (k := cells + 20) (n := slots + 8189) (by omega) (by omega) ?_
    exact kk ad K _ _ ls Ag.rf hW hS (lv_sub hl [0, 1, 2, 3, 4, 5] rfl)
  · replace hf := ifF c9 hf
    refine lv_iconst (v := 0) hx hb dL_law_3002 (by decide) ?_
    cases hf
set_option maxHeartbeats 4000000 in
set_option maxRecDepth 100000 in
theorem c_law53 {p : Program} {e : Env} {R : Room} {s : State} {m : MethodId} {below : List Frame} {meth : Method} {c : Code} {Q : State → Prop} {b L : Nat} {xs : Nat → Int32} {H : Heap} {locs : List Loc} {ls : Array Slot} {cells slots : Nat} (l : Launch) (hfl : l.stackTraces = false) (g : GP) (ad : Nat → Nat) (n : Nat) (K : Nat → Nat) (F : Nat) (S0 : St) (o1 o2 o3 o4 : Nat) (i : Int32) (hC : Cx g p s m #[.ref b] c cL_law RL lw_tbl 9) (hX : va_X b L xs s s.heap) (hbl : b < s.heap.size) (hGs : GF g (fun q : Nat => s.heap.size ≤ q) s s.heap) (hW : Wb g ad n K S0 (fun q : Nat => s.heap.size ≤ q) H) (hS : va_S (fun q : Nat => s.heap.size ≤ q) s.heap H locs) (t1 : o1 < n ∧ K o1 = 9) (t2 : o2 < n ∧ K o2 = 10) (t3 : o3 < n ∧ K o3 = 13) (t4 : o4 < n ∧ K o4 = 17) (hl : lv_has ls 9 [(5, .int i), (4, .ref (ad o4)), (3, .ref (ad o3)), (2, .ref (ad o2)), (1, .ref (ad o1)), (0, .ref b)]) (hRf : 13 ≤ R.frames) (hRl : 280 ≤ R.locals) (hRc : cells + 20 ≤ R.cells) (hRs : slots + 8189 ≤ R.slots) (S9 : St) (n9 : Nat) (hf : f_law53 F xs L S0 n o1 o2 o3 o4 i = some (S9, n9))
    (kk : ∀ (ad9 K9 : Nat → Nat) (H1 : Heap) (locs1 : List Loc) (ls1 : Array Slot), Ag ad K n ad9 K9 n9 → Wb g ad9 n9 K9 S9 (fun q : Nat => s.heap.size ≤ q) H1 → va_S (fun q : Nat => s.heap.size ≤ q) s.heap H1 locs1 → lv_has ls1 9 [(5, .int i), (4, .ref (ad9 o4)), (3, .ref (ad9 o3)), (2, .ref (ad9 o2)), (1, .ref (ad9 o1)), (0, .ref b)] → W p l e R s m #[.ref b] below meth c H1 locs1 (cells + 20) (slots + 8189) Q (F0 m 3297 ls1 [])) :
    W p l e R s m #[.ref b] below meth c H locs cells slots Q (F0 m 3004 ls []) := by
  have hx := hC.1
  have hb := hC.2.1
  have hml := hC.2.2.1
  have hown : s.vm.findClass RL = some m.cls := hC.2.2.2.1
  have hts := hC.2.2.2.2.1
  have hK := hC.2.2.2.2.2
  have hA : ∀ q : Nat, s.heap.size ≤ q → (fun q : Nat => s.heap.size ≤ q) q := fun _ h => h
  have hbA : ¬ (fun q : Nat => s.heap.size ≤ q) b := Nat.not_le.mpr hbl
  unfold f_law53 at hf
  refine lv_aload_n hx hb dL_law_3004 rfl (lv_at hl 4 rfl) ?_
  refine lv_aload_n hx hb dL_law_3005 rfl (lv_at hl 5 rfl) ?_
  refine lv_iload hx hb dL_law_3006 (lv_at hl 0 rfl) ?_
  refine lv_iconst (v := 1) hx hb dL_law_3008 (by decide) ?_
  refine lv_iadd hx hb dL_law_3009 ?_
  replace hf := ckiE hf
  obtain ⟨h1, hf⟩ := hf
  refine va_sld hx hb hX hbl hbA hS h1 dL_law_3010 ?_
  refine lv_aload_n hx hb dL_law_3011 rfl (lv_at hl 5 rfl) ?_
  refine lv_iload hx hb dL_law_3012 (lv_at hl 0 rfl) ?_
  refine lv_iconst (v := 2) hx hb dL_law_3014 (by decide) ?_
  refine lv_iadd hx hb dL_law_3015 ?_
  replace hf := ckiE hf
  obtain ⟨h2, hf⟩ := hf
  refine va_sld hx hb hX hbl hbA hS h2 dL_law_3016 ?_
  refine lv_aload_n hx hb dL_law_3017 rfl (lv_at hl 2 rfl) ?_
  replace hf := obE hf
  obtain ⟨z3, hz3, hf⟩ := hf
  obtain ⟨r5, S4⟩ := z3
  replace hf := ltE (ltE hf r5 rfl) S4 rfl
  refine x_callSWc (As := [.ref (ad o1), .int (xs (Int32.toNatClampNeg (i + 1))), .int (xs (Int32.toNatClampNeg (i + 2))), .ref (ad o3)]) (rest := []) (o := (some (.int r5))) (S1 := S4) hC hl.1 hW hS hGs hA (c_L_event l hfl g ad n K H.size F S0 o1 (xs (Int32.toNatClampNeg (i + 1))) (xs (Int32.toNatClampNeg (i + 2))) o3 t1 t3 r5 S4 hz3) (vx_cwSW (hh := [(0, 10, 13, 31), (0, 10, 17, 19)]) 4 hts gL_law_L_event rfl rfl rfl (by decide +kernel) ⟨Nat.le_trans (Nat.le_of_ble_eq_true rfl) hRf, Nat.le_trans (Nat.le_of_ble_eq_true rfl) hRl⟩) rfl rfl (Nat.le_of_ble_eq_true rfl) dL_law_3018 ⟨by omega, by omega⟩ (fun H locs hPz3 hW hS => ?_)
  refine W.widen (k := cells + 1) (n := slots + 6) (by omega) (by omega) ?_
  refine W.eq (g2 := F0 m 3021 ls [.int r5]) rfl ?_
  refine lv_istore (lv' := [(6, .int r5), (5, .int i), (4, .ref (ad o4)), (3, .ref (ad o3)), (2, .ref (ad o2)), (1, .ref (ad o1)), (0, .ref b)]) hx hb dL_law_3021 hl (by decide) rfl (fun ls hl => ?_)
  refine lv_aload_n hx hb dL_law_3023 rfl (lv_at hl 4 rfl) ?_
  refine lv_aload_n hx hb dL_law_3024 rfl (lv_at hl 6 rfl) ?_
  refine lv_iload hx hb dL_law_3025 (lv_at hl 1 rfl) ?_
  refine lv_iconst (v := 1) hx hb dL_law_3027 (by decide) ?_
  refine lv_iadd hx hb dL_law_3028 ?_
  replace hf := ckiE hf
  obtain ⟨h7, hf⟩ := hf
  refine va_sld hx hb hX hbl hbA hS h7 dL_law_3029 ?_
  refine lv_aload_n hx hb dL_law_3030 rfl (lv_at hl 6 rfl) ?_
  refine lv_iload hx hb dL_law_3031 (lv_at hl 1 rfl) ?_
  refine lv_iconst (v := 2) hx hb dL_law_3033 (by decide) ?_
  refine lv_iadd hx hb dL_law_3034 ?_
  replace hf := ckiE hf
  obtain ⟨h8, hf⟩ := hf
  refine va_sld hx hb hX hbl hbA hS h8 dL_law_3035 ?_
  replace hf := obE hf
  obtain ⟨z9, hz9, hf⟩ := hf
  obtain ⟨r11, S10⟩ := z9
  replace hf := ltE (ltE hf r11 rfl) S10 rfl
  refine x_callV (As := [.int (xs (Int32.toNatClampNeg (i + 1))), .int (xs (Int32.toNatClampNeg (i + 2)))]) (rest := []) (o := (some (.int r11))) (S1 := S10) hC hl.1 hW hS hGs hA t2 rfl (show vwCl[10]? = some (RX11, TX11, 30) ∧ 10 < 11 from ⟨rfl, by decide⟩) (c_X11_event l g ad n K H.size F S4 o2 (xs (Int32.toNatClampNeg (i + 1))) (xs (Int32.toNatClampNeg (i + 2))) t2 r11 S10 hz9) (cwV 2 hts gL_law_X11_event rfl rfl rfl (by decide +kernel) ⟨Nat.le_trans (Nat.le_of_ble_eq_true rfl) hRf, Nat.le_trans (Nat.le_of_ble_eq_true rfl) hRl⟩) rfl rfl (Nat.le_of_ble_eq_true rfl) dL_law_3036 ⟨by omega, by omega⟩ (fun H locs hPz9 hW hS => ?_)
  refine W.eq (g2 := F0 m 3039 ls [.int r11]) rfl ?_
  refine lv_istore (lv' := [(7, .int r11), (6, .int r5), (5, .int i), (4, .ref (ad o4)), (3, .ref (ad o3)), (2, .ref (ad o2)), (1, .ref (ad o1)), (0, .ref b)]) hx hb dL_law_3039 hl (by decide) rfl (fun ls hl => ?_)
  refine lv_aload_n hx hb dL_law_3041 rfl (lv_at hl 5 rfl) ?_
  replace hf := obE hf
  obtain ⟨z13, hz13, hf⟩ := hf
  obtain ⟨r15, S14⟩ := z13
  replace hf := ltE (ltE hf r15 rfl) S14 rfl
  refine x_callV (As := []) (rest := []) (o := (some (.int r15))) (S1 := S14) hC hl.1 hW hS hGs hA t2 rfl (show vwCl[10]? = some (RX11, TX11, 30) ∧ 10 < 11 from ⟨rfl, by decide⟩) (c_X11_thrown l g ad n K H.size F S10 o2 t2 r15 S14 hz13) (cwV 0 hts gL_law_X11_thrown rfl rfl rfl (by decide +kernel) ⟨Nat.le_trans (Nat.le_of_ble_eq_true rfl) hRf, Nat.le_trans (Nat.le_of_ble_eq_true rfl) hRl⟩) rfl rfl (Nat.le_of_ble_eq_true rfl) dL_law_3042 ⟨by omega, by omega⟩ (fun H locs hPz13 hW hS => ?_)
  refine W.eq (g2 := F0 m 3045 ls [.int r15]) rfl ?_
  refine lv_iload hx hb dL_law_3045 (lv_at hl 1 rfl) ?_
  refine lv_icmp_eq (tgt := 3052) hx hb dL_law_3047 (by decide) (fun c17 => ?_) (fun c17 => ?_)
  · replace hf := ifT c17 hf
    refine lv_iload hx hb dL_law_3052 (lv_at hl 1 rfl) ?_
    refine lv_if_ne (tgt := 3069) hx hb dL_law_3054 (by decide) (fun c18 => ?_) (fun c18 => ?_)
    · replace hf := ifT c18 hf
      refine lv_goto (tgt := 3297) hx hb dL_law_3069 (by decide) ?_
      obtain ⟨e1, e2⟩ := so2 hf
      subst e1
      subst e2
      refine W.widen (k := cells + 20) (n := slots + 8189) (by omega) (by omega) ?_
      exact kk ad K _ _ ls Ag.rf hW hS (lv_sub hl [2, 3, 4, 5, 6, 7] rfl)
    · replace hf := ifF (fun q => q c18) hf
      refine lv_aload_n hx hb dL_law_3057 rfl (lv_at hl 4 rfl) ?_
      refine lv_iconst (v := 0) hx hb dL_law_3058 (by decide) ?_
      replace hf := ckiE hf
      obtain ⟨h19, hf⟩ := hf
      refine x_lald hC hW t3 rfl rfl h19 dL_law_3059 ?_
      refine lv_iload hx hb dL_law_3060 (lv_at hl 0 rfl) ?_
      refine lv_i2l (v := r11.toInt64) hx hb dL_law_3062 rfl ?_
      refine W.lcmp hx hb dL_law_3063 ?_
      refine lv_if_eq (tgt := 3069) hx hb dL_law_3064 (by decide) (fun c20 => ?_) (fun c20 => ?_)
      · replace hf := ifT c20 hf
        refine lv_goto (tgt := 3297) hx hb dL_law_3069 (by decide) ?_
        obtain ⟨e1, e2⟩ := so2 hf
        subst e1
        subst e2
        refine W.widen (k := cells + 20) (n := slots + 8189) (by omega) (by omega) ?_
        exact kk ad K _ _ ls Ag.rf hW hS (lv_sub hl [2, 3, 4, 5, 6, 7] rfl)
      · replace hf := ifF c20 hf
        refine lv_iconst (v := 0) hx hb dL_law_3067 (by decide) ?_
        cases hf
  · replace hf := ifF c17 hf
    refine lv_iconst (v := 0) hx hb dL_law_3050 (by decide) ?_
    cases hf
set_option maxHeartbeats 4000000 in
set_option maxRecDepth 100000 in
theorem c_law54 {p : Program} {e : Env} {R : Room} {s : State} {m : MethodId} {below : List Frame} {meth : Method} {c : Code} {Q : State → Prop} {b L : Nat} {xs : Nat → Int32} {H : Heap} {locs : List Loc} {ls : Array Slot} {cells slots : Nat} (l : Launch) (hfl : l.stackTraces = false) (g : GP) (ad : Nat → Nat) (n : Nat) (K : Nat → Nat) (F : Nat) (S0 : St) (o1 o2 o3 o4 : Nat) (i : Int32) (hC : Cx g p s m #[.ref b] c cL_law RL lw_tbl 9) (hX : va_X b L xs s s.heap) (hbl : b < s.heap.size) (hGs : GF g (fun q : Nat => s.heap.size ≤ q) s s.heap) (hW : Wb g ad n K S0 (fun q : Nat => s.heap.size ≤ q) H) (hS : va_S (fun q : Nat => s.heap.size ≤ q) s.heap H locs) (t1 : o1 < n ∧ K o1 = 9) (t2 : o2 < n ∧ K o2 = 10) (t3 : o3 < n ∧ K o3 = 13) (t4 : o4 < n ∧ K o4 = 17) (hl : lv_has ls 9 [(5, .int i), (4, .ref (ad o4)), (3, .ref (ad o3)), (2, .ref (ad o2)), (1, .ref (ad o1)), (0, .ref b)]) (hRf : 13 ≤ R.frames) (hRl : 280 ≤ R.locals) (hRc : cells + 20 ≤ R.cells) (hRs : slots + 8189 ≤ R.slots) (S9 : St) (n9 : Nat) (hf : f_law54 F xs L S0 n o1 o2 o3 o4 i = some (S9, n9))
    (kk : ∀ (ad9 K9 : Nat → Nat) (H1 : Heap) (locs1 : List Loc) (ls1 : Array Slot), Ag ad K n ad9 K9 n9 → Wb g ad9 n9 K9 S9 (fun q : Nat => s.heap.size ≤ q) H1 → va_S (fun q : Nat => s.heap.size ≤ q) s.heap H1 locs1 → lv_has ls1 9 [(5, .int i), (4, .ref (ad9 o4)), (3, .ref (ad9 o3)), (2, .ref (ad9 o2)), (1, .ref (ad9 o1)), (0, .ref b)] → W p l e R s m #[.ref b] below meth c H1 locs1 (cells + 20) (slots + 8189) Q (F0 m 3297 ls1 [])) :
    W p l e R s m #[.ref b] below meth c H locs cells slots Q (F0 m 3072 ls []) := by
  have hx := hC.1
  have hb := hC.2.1
  have hml := hC.2.2.1
  have hown : s.vm.findClass RL = some m.cls := hC.2.2.2.1
  have hts := hC.2.2.2.2.1
  have hK := hC.2.2.2.2.2
  have hA : ∀ q : Nat, s.heap.size ≤ q → (fun q : Nat => s.heap.size ≤ q) q := fun _ h => h
  have hbA : ¬ (fun q : Nat => s.heap.size ≤ q) b := Nat.not_le.mpr hbl
  unfold f_law54 at hf
  refine lv_aload_n hx hb dL_law_3072 rfl (lv_at hl 4 rfl) ?_
  refine lv_aload_n hx hb dL_law_3073 rfl (lv_at hl 5 rfl) ?_
  refine lv_iload hx hb dL_law_3074 (lv_at hl 0 rfl) ?_
  refine lv_iconst (v := 1) hx hb dL_law_3076 (by decide) ?_
  refine lv_iadd hx hb dL_law_3077 ?_
  replace hf := ckiE hf
  obtain ⟨h1, hf⟩ := hf
  refine va_sld hx hb hX hbl hbA hS h1 dL_law_3078 ?_
  refine lv_aload_n hx hb dL_law_3079 rfl (lv_at hl 2 rfl) ?_
  replace hf := obE hf
  obtain ⟨z2, hz2, hf⟩ := hf
  obtain ⟨r4, S3⟩ := z2
  replace hf := ltE (ltE hf r4 rfl) S3 rfl
  refine x_callSWc (As := [.ref (ad o1), .int (xs (Int32.toNatClampNeg (i + 1))), .ref (ad o3)]) (rest := []) (o := (some (.int r4))) (S1 := S3) hC hl.1 hW hS hGs hA (c_L_eventsOf l hfl g ad n K H.size F S0 o1 (xs (Int32.toNatClampNeg (i + 1))) o3 t1 t3 r4 S3 hz2) (vx_cwSW (hh := [(0, 9, 12, 19)]) 3 hts gL_law_L_eventsOf rfl rfl rfl (by decide +kernel) ⟨Nat.le_trans (Nat.le_of_ble_eq_true rfl) hRf, Nat.le_trans (Nat.le_of_ble_eq_true rfl) hRl⟩) rfl rfl (Nat.le_of_ble_eq_true rfl) dL_law_3080 ⟨by omega, by omega⟩ (fun H locs hPz2 hW hS => ?_)
  refine W.widen (k := cells + 1) (n := slots + 6) (by omega) (by omega) ?_
  refine W.eq (g2 := F0 m 3083 ls [.int r4]) rfl ?_
  refine lv_istore (lv' := [(6, .int r4), (5, .int i), (4, .ref (ad o4)), (3, .ref (ad o3)), (2, .ref (ad o2)), (1, .ref (ad o1)), (0, .ref b)]) hx hb dL_law_3083 hl (by decide) rfl (fun ls hl => ?_)
  refine lv_aload_n hx hb dL_law_3085 rfl (lv_at hl 4 rfl) ?_
  refine lv_aload_n hx hb dL_law_3086 rfl (lv_at hl 6 rfl) ?_
  refine lv_iload hx hb dL_law_3087 (lv_at hl 1 rfl) ?_
  refine lv_iconst (v := 1) hx hb dL_law_3089 (by decide) ?_
  refine lv_iadd hx hb dL_law_3090 ?_
  replace hf := ckiE hf
  obtain ⟨h6, hf⟩ := hf
  refine va_sld hx hb hX hbl hbA hS h6 dL_law_3091 ?_
  replace hf := obE hf
  obtain ⟨z7, hz7, hf⟩ := hf
  obtain ⟨r9, S8⟩ := z7
  replace hf := ltE (ltE hf r9 rfl) S8 rfl
  refine x_callV (As := [.int (xs (Int32.toNatClampNeg (i + 1)))]) (rest := []) (o := (some (.int r9))) (S1 := S8) hC hl.1 hW hS hGs hA t2 rfl (show vwCl[10]? = some (RX11, TX11, 30) ∧ 10 < 11 from ⟨rfl, by decide⟩) (c_X11_eventsOf l g ad n K H.size F S3 o2 (xs (Int32.toNatClampNeg (i + 1))) t2 r9 S8 hz7) (cwV 1 hts gL_law_X11_eventsOf rfl rfl rfl (by decide +kernel) ⟨Nat.le_trans (Nat.le_of_ble_eq_true rfl) hRf, Nat.le_trans (Nat.le_of_ble_eq_true rfl) hRl⟩) rfl rfl (Nat.le_of_ble_eq_true rfl) dL_law_3092 ⟨by omega, by omega⟩ (fun H locs hPz7 hW hS => ?_)
  refine W.eq (g2 := F0 m 3095 ls [.int r9]) rfl ?_
  refine lv_istore (lv' := [(7, .int r9), (6, .int r4), (5, .int i), (4, .ref (ad o4)), (3, .ref (ad o3)), (2, .ref (ad o2)), (1, .ref (ad o1)), (0, .ref b)]) hx hb dL_law_3095 hl (by decide) rfl (fun ls hl => ?_)
  refine lv_aload_n hx hb dL_law_3097 rfl (lv_at hl 5 rfl) ?_
  replace hf := obE hf
  obtain ⟨z11, hz11, hf⟩ := hf
  obtain ⟨r13, S12⟩ := z11
  replace hf := ltE (ltE hf r13 rfl) S12 rfl
  refine x_callV (As := []) (rest := []) (o := (some (.int r13))) (S1 := S12) hC hl.1 hW hS hGs hA t2 rfl (show vwCl[10]? = some (RX11, TX11, 30) ∧ 10 < 11 from ⟨rfl, by decide⟩) (c_X11_thrown l g ad n K H.size F S8 o2 t2 r13 S12 hz11) (cwV 0 hts gL_law_X11_thrown rfl rfl rfl (by decide +kernel) ⟨Nat.le_trans (Nat.le_of_ble_eq_true rfl) hRf, Nat.le_trans (Nat.le_of_ble_eq_true rfl) hRl⟩) rfl rfl (Nat.le_of_ble_eq_true rfl) dL_law_3098 ⟨by omega, by omega⟩ (fun H locs hPz11 hW hS => ?_)
  refine W.eq (g2 := F0 m 3101 ls [.int r13]) rfl ?_
  refine lv_iload hx hb dL_law_3101 (lv_at hl 1 rfl) ?_
  refine lv_icmp_eq (tgt := 3108) hx hb dL_law_3103 (by decide) (fun c15 => ?_) (fun c15 => ?_)
  · replace hf := ifT c15 hf
    refine lv_iload hx hb dL_law_3108 (lv_at hl 1 rfl) ?_
    refine lv_if_ne (tgt := 3125) hx hb dL_law_3110 (by decide) (fun c16 => ?_) (fun c16 => ?_)
    · replace hf := ifT c16 hf
      refine lv_goto (tgt := 3297) hx hb dL_law_3125 (by decide) ?_
      obtain ⟨e1, e2⟩ := so2 hf
      subst e1
      subst e2
      refine W.widen (k := cells + 20) (n := slots + 8189) (by omega) (by omega) ?_
      exact kk ad K _ _ ls Ag.rf hW hS (lv_sub hl [2, 3, 4, 5, 6, 7] rfl)
    · replace hf := ifF (fun q => q c16) hf
      refine lv_aload_n hx hb dL_law_3113 rfl (lv_at hl 4 rfl) ?_
      refine lv_iconst (v := 0) hx hb dL_law_3114 (by decide) ?_
      replace hf := ckiE hf
      obtain ⟨h17, hf⟩ := hf
      refine x_lald hC hW t3 rfl rfl h17 dL_law_3115 ?_
      refine lv_iload hx hb dL_law_3116 (lv_at hl 0 rfl) ?_
      refine lv_i2l (v := r9.toInt64) hx hb dL_law_3118 rfl ?_
      refine W.lcmp hx hb dL_law_3119 ?_
      refine lv_if_eq (tgt := 3125) hx hb dL_law_3120 (by decide) (fun c18 => ?_) (fun c18 => ?_)
      · replace hf := ifT c18 hf
        refine lv_goto (tgt := 3297) hx hb dL_law_3125 (by decide) ?_
        obtain ⟨e1, e2⟩ := so2 hf
        subst e1
        subst e2
        refine W.widen (k := cells + 20) (n := slots + 8189) (by omega) (by omega) ?_
        exact kk ad K _ _ ls Ag.rf hW hS (lv_sub hl [2, 3, 4, 5, 6, 7] rfl)
      · replace hf := ifF c18 hf
        refine lv_iconst (v := 0) hx hb dL_law_3123 (by decide) ?_
        cases hf
  · replace hf := ifF c15 hf
    refine lv_iconst (v := 0) hx hb dL_law_3106 (by decide) ?_
    cases hf
set_option maxHeartbeats 4000000 in
set_option maxRecDepth 100000 in
theorem c_law55 {p : Program} {e : Env} {R : Room} {s : State} {m : MethodId} {below : List Frame} {meth : Method} {c : Code} {Q : State → Prop} {b L : Nat} {xs : Nat → Int32} {H : Heap} {locs : List Loc} {ls : Array Slot} {cells slots : Nat} (l : Launch) (hfl : l.stackTraces = false) (g : GP) (ad : Nat → Nat) (n : Nat) (K : Nat → Nat) (F : Nat) (S0 : St) (o1 o2 o3 o4 : Nat) (i : Int32) (hC : Cx g p s m #[.ref b] c cL_law RL lw_tbl 9) (hX : va_X b L xs s s.heap) (hbl : b < s.heap.size) (hGs : GF g (fun q : Nat => s.heap.size ≤ q) s s.heap) (hW : Wb g ad n K S0 (fun q : Nat => s.heap.size ≤ q) H) (hS : va_S (fun q : Nat => s.heap.size ≤ q) s.heap H locs) (t1 : o1 < n ∧ K o1 = 9) (t2 : o2 < n ∧ K o2 = 10) (t3 : o3 < n ∧ K o3 = 13) (t4 : o4 < n ∧ K o4 = 17) (hl : lv_has ls 9 [(5, .int i), (4, .ref (ad o4)), (3, .ref (ad o3)), (2, .ref (ad o2)), (1, .ref (ad o1)), (0, .ref b)]) (hRf : 13 ≤ R.frames) (hRl : 280 ≤ R.locals) (hRc : cells + 20 ≤ R.cells) (hRs : slots + 8189 ≤ R.slots) (S9 : St) (n9 : Nat) (hf : f_law55 F xs L S0 n o1 o2 o3 o4 i = some (S9, n9))
    (kk : ∀ (ad9 K9 : Nat → Nat) (H1 : Heap) (locs1 : List Loc) (ls1 : Array Slot), Ag ad K n ad9 K9 n9 → Wb g ad9 n9 K9 S9 (fun q : Nat => s.heap.size ≤ q) H1 → va_S (fun q : Nat => s.heap.size ≤ q) s.heap H1 locs1 → lv_has ls1 9 [(5, .int i), (4, .ref (ad9 o4)), (3, .ref (ad9 o3)), (2, .ref (ad9 o2)), (1, .ref (ad9 o1)), (0, .ref b)] → W p l e R s m #[.ref b] below meth c H1 locs1 (cells + 20) (slots + 8189) Q (F0 m 3297 ls1 [])) :
    W p l e R s m #[.ref b] below meth c H locs cells slots Q (F0 m 3128 ls []) := by
  have hx := hC.1
  have hb := hC.2.1
  have hml := hC.2.2.1
  have hown : s.vm.findClass RL = some m.cls := hC.2.2.2.1
  have hts := hC.2.2.2.2.1
  have hK := hC.2.2.2.2.2
  have hA : ∀ q : Nat, s.heap.size ≤ q → (fun q : Nat => s.heap.size ≤ q) q := fun _ h => h
  have hbA : ¬ (fun q : Nat => s.heap.size ≤ q) b := Nat.not_le.mpr hbl
  unfold f_law55 at hf
  refine lv_aload_n hx hb dL_law_3128 rfl (lv_at hl 4 rfl) ?_
  refine lv_aload_n hx hb dL_law_3129 rfl (lv_at hl 2 rfl) ?_
  replace hf := obE hf
  obtain ⟨z1, hz1, hf⟩ := hf
  obtain ⟨r3, S2⟩ := z1
  replace hf := ltE (ltE hf r3 rfl) S2 rfl
  refine x_callSWc (As := [.ref (ad o1), .ref (ad o3)]) (rest := []) (o := (some (.int r3))) (S1 := S2) hC hl.1 hW hS hGs hA (c_L_undo l hfl g ad n K H.size F S0 o1 o3 t1 t3 r3 S2 hz1) (vx_cwSW (hh := [(0, 8, 11, 13)]) 2 hts gL_law_L_undo rfl rfl rfl (by decide +kernel) ⟨Nat.le_trans (Nat.le_of_ble_eq_true rfl) hRf, Nat.le_trans (Nat.le_of_ble_eq_true rfl) hRl⟩) rfl rfl (Nat.le_of_ble_eq_true rfl) dL_law_3130 ⟨by omega, by omega⟩ (fun H locs hPz1 hW hS => ?_)
  refine W.widen (k := cells + 1) (n := slots + 6) (by omega) (by omega) ?_
  refine W.eq (g2 := F0 m 3133 ls [.int r3]) rfl ?_
  refine lv_istore (lv' := [(6, .int r3), (5, .int i), (4, .ref (ad o4)), (3, .ref (ad o3)), (2, .ref (ad o2)), (1, .ref (ad o1)), (0, .ref b)]) hx hb dL_law_3133 hl (by decide) rfl (fun ls hl => ?_)
  refine lv_aload_n hx hb dL_law_3135 rfl (lv_at hl 4 rfl) ?_
  replace hf := obE hf
  obtain ⟨z5, hz5, hf⟩ := hf
  obtain ⟨r7, S6⟩ := z5
  replace hf := ltE (ltE hf r7 rfl) S6 rfl
  refine x_callV (As := []) (rest := []) (o := (some (.int r7))) (S1 := S6) hC hl.1 hW hS hGs hA t2 rfl (show vwCl[10]? = some (RX11, TX11, 30) ∧ 10 < 11 from ⟨rfl, by decide⟩) (c_X11_undo l g ad n K H.size F S2 o2 t2 r7 S6 hz5) (cwV 0 hts gL_law_X11_undo rfl rfl rfl (by decide +kernel) ⟨Nat.le_trans (Nat.le_of_ble_eq_true rfl) hRf, Nat.le_trans (Nat.le_of_ble_eq_true rfl) hRl⟩) rfl rfl (Nat.le_of_ble_eq_true rfl) dL_law_3136 ⟨by omega, by omega⟩ (fun H locs hPz5 hW hS => ?_)
  refine W.eq (g2 := F0 m 3139 ls [.int r7]) rfl ?_
  refine lv_istore (lv' := [(7, .int r7), (6, .int r3), (5, .int i), (4, .ref (ad o4)), (3, .ref (ad o3)), (2, .ref (ad o2)), (1, .ref (ad o1)), (0, .ref b)]) hx hb dL_law_3139 hl (by decide) rfl (fun ls hl => ?_)
  refine lv_aload_n hx hb dL_law_3141 rfl (lv_at hl 5 rfl) ?_
  replace hf := obE hf
  obtain ⟨z9, hz9, hf⟩ := hf
  obtain ⟨r11, S10⟩ := z9
  replace hf := ltE (ltE hf r11 rfl) S10 rfl
  refine x_callV (As := []) (rest := []) (o := (some (.int r11))) (S1 := S10) hC hl.1 hW hS hGs hA t2 rfl (show vwCl[10]? = some (RX11, TX11, 30) ∧ 10 < 11 from ⟨rfl, by decide⟩) (c_X11_thrown l g ad n K H.size F S6 o2 t2 r11 S10 hz9) (cwV 0 hts gL_law_X11_thrown rfl rfl rfl (by decide +kernel) ⟨Nat.le_trans (Nat.le_of_ble_eq_true rfl) hRf, Nat.le_trans (Nat.le_of_ble_eq_true rfl) hRl⟩) rfl rfl (Nat.le_of_ble_eq_true rfl) dL_law_3142 ⟨by omega, by omega⟩ (fun H locs hPz9 hW hS => ?_)
  refine W.eq (g2 := F0 m 3145 ls [.int r11]) rfl ?_
  refine lv_iload hx hb dL_law_3145 (lv_at hl 1 rfl) ?_
  refine lv_icmp_eq (tgt := 3152) hx hb dL_law_3147 (by decide) (fun c13 => ?_) (fun c13 => ?_)
  · replace hf := ifT c13 hf
    refine lv_iload hx hb dL_law_3152 (lv_at hl 1 rfl) ?_
    refine lv_if_ne (tgt := 3169) hx hb dL_law_3154 (by decide) (fun c14 => ?_) (fun c14 => ?_)
    · replace hf := ifT c14 hf
      refine lv_goto (tgt := 3297) hx hb dL_law_3169 (by decide) ?_
      obtain ⟨e1, e2⟩ := so2 hf
      subst e1
      subst e2
      refine W.widen (k := cells + 20) (n := slots + 8189) (by omega) (by omega) ?_
      exact kk ad K _ _ ls Ag.rf hW hS (lv_sub hl [2, 3, 4, 5, 6, 7] rfl)
    · replace hf := ifF (fun q => q c14) hf
      refine lv_aload_n hx hb dL_law_3157 rfl (lv_at hl 4 rfl) ?_
      refine lv_iconst (v := 0) hx hb dL_law_3158 (by decide) ?_
      replace hf := ckiE hf
      obtain ⟨h15, hf⟩ := hf
      refine x_lald hC hW t3 rfl rfl h15 dL_law_3159 ?_
      refine lv_iload hx hb dL_law_3160 (lv_at hl 0 rfl) ?_
      refine lv_i2l (v := r7.toInt64) hx hb dL_law_3162 rfl ?_
      refine W.lcmp hx hb dL_law_3163 ?_
      refine lv_if_eq (tgt := 3169) hx hb dL_law_3164 (by decide) (fun c16 => ?_) (fun c16 => ?_)
      · replace hf := ifT c16 hf
        refine lv_goto (tgt := 3297) hx hb dL_law_3169 (by decide) ?_
        obtain ⟨e1, e2⟩ := so2 hf
        subst e1
        subst e2
        refine W.widen (k := cells + 20) (n := slots + 8189) (by omega) (by omega) ?_
        exact kk ad K _ _ ls Ag.rf hW hS (lv_sub hl [2, 3, 4, 5, 6, 7] rfl)
      · replace hf := ifF c16 hf
        refine lv_iconst (v := 0) hx hb dL_law_3167 (by decide) ?_
        cases hf
  · replace hf := ifF c13 hf
    refine lv_iconst (v := 0) hx hb dL_law_3150 (by decide) ?_
    cases hf
set_option maxHeartbeats 4000000 in
set_option maxRecDepth 100000 in
theorem c_law56 {p : Program} {e : Env} {R : Room} {s : State} {m : MethodId} {below : List Frame} {meth : Method} {c : Code} {Q : State → Prop} {b L : Nat} {xs : Nat → Int32} {H : Heap} {locs : List Loc} {ls : Array Slot} {cells slots : Nat} (l : Launch) (hfl : l.stackTraces = false) (g : GP) (ad : Nat → Nat) (n : Nat) (K : Nat → Nat) (F : Nat) (S0 : St) (o1 o2 o3 o4 : Nat) (i : Int32) (hC : Cx g p s m #[.ref b] c cL_law RL lw_tbl 9) (hX : va_X b L xs s s.heap) (hbl : b < s.heap.size) (hGs : GF g (fun q : Nat => s.heap.size ≤ q) s s.heap) (hW : Wb g ad n K S0 (fun q : Nat => s.heap.size ≤ q) H) (hS : va_S (fun q : Nat => s.heap.size ≤ q) s.heap H locs) (t1 : o1 < n ∧ K o1 = 9) (t2 : o2 < n ∧ K o2 = 10) (t3 : o3 < n ∧ K o3 = 13) (t4 : o4 < n ∧ K o4 = 17) (hl : lv_has ls 9 [(5, .int i), (4, .ref (ad o4)), (3, .ref (ad o3)), (2, .ref (ad o2)), (1, .ref (ad o1)), (0, .ref b)]) (hRf : 13 ≤ R.frames) (hRl : 280 ≤ R.locals) (hRc : cells + 20 ≤ R.cells) (hRs : slots + 8189 ≤ R.slots) (S9 : St) (n9 : Nat) (hf : f_law56 F xs L S0 n o1 o2 o3 o4 i = some (S9, n9))
    (kk : ∀ (ad9 K9 : Nat → Nat) (H1 : Heap) (locs1 : List Loc) (ls1 : Array Slot), Ag ad K n ad9 K9 n9 → Wb g ad9 n9 K9 S9 (fun q : Nat => s.heap.size ≤ q) H1 → va_S (fun q : Nat => s.heap.size ≤ q) s.heap H1 locs1 → lv_has ls1 9 [(5, .int i), (4, .ref (ad9 o4)), (3, .ref (ad9 o3)), (2, .ref (ad9 o2)), (1, .ref (ad9 o1)), (0, .ref b)] → W p l e R s m #[.ref b] below meth c H1 locs1 (cells + 20) (slots + 8189) Q (F0 m 3297 ls1 [])) :
    W p l e R s m #[.ref b] below meth c H locs cells slots Q (F0 m 3172 ls []) := by
  have hx := hC.1
  have hb := hC.2.1
  have hml := hC.2.2.1
  have hown : s.vm.findClass RL = some m.cls := hC.2.2.2.1
  have hts := hC.2.2.2.2.1
  have hK := hC.2.2.2.2.2
  have hA : ∀ q : Nat, s.heap.size ≤ q → (fun q : Nat => s.heap.size ≤ q) q := fun _ h => h
  have hbA : ¬ (fun q : Nat => s.heap.size ≤ q) b := Nat.not_le.mpr hbl
  unfold f_law56 at hf
  refine lv_aload_n hx hb dL_law_3172 rfl (lv_at hl 4 rfl) ?_
  replace hf := obE hf
  obtain ⟨z1, hz1, hf⟩ := hf
  obtain ⟨r3, S2⟩ := z1
  replace hf := ltE (ltE hf r3 rfl) S2 rfl
  refine x_callV (As := []) (rest := []) (o := (some (.int r3))) (S1 := S2) hC hl.1 hW hS hGs hA t1 rfl (show vwCl[9]? = some (RX10, TX10, 11) ∧ 9 < 11 from ⟨rfl, by decide⟩) (c_X10_undoCount l g ad n K H.size F S0 o1 t1 r3 S2 hz1) (cwV 0 hts gL_law_X10_undoCount rfl rfl rfl (by decide +kernel) ⟨Nat.le_trans (Nat.le_of_ble_eq_true rfl) hRf, Nat.le_trans (Nat.le_of_ble_eq_true rfl) hRl⟩) rfl rfl (Nat.le_of_ble_eq_true rfl) dL_law_3173 ⟨by omega, by omega⟩ (fun H locs hPz1 hW hS => ?_)
  refine W.eq (g2 := F0 m 3176 ls [.int r3]) rfl ?_
  refine lv_aload_n hx hb dL_law_3176 rfl (lv_at hl 3 rfl) ?_
  replace hf := obE hf
  obtain ⟨z5, hz5, hf⟩ := hf
  obtain ⟨r7, S6⟩ := z5
  replace hf := ltE (ltE hf r7 rfl) S6 rfl
  refine x_callV (As := []) (rest := [.int r3]) (o := (some (.int r7))) (S1 := S6) hC hl.1 hW hS hGs hA t2 rfl (show vwCl[10]? = some (RX11, TX11, 30) ∧ 10 < 11 from ⟨rfl, by decide⟩) (c_X11_undoCount l g ad n K H.size F S2 o2 t2 r7 S6 hz5) (cwV 0 hts gL_law_X11_undoCount rfl rfl rfl (by decide +kernel) ⟨Nat.le_trans (Nat.le_of_ble_eq_true rfl) hRf, Nat.le_trans (Nat.le_of_ble_eq_true rfl) hRl⟩) rfl rfl (Nat.le_of_ble_eq_true rfl) dL_law_3177 ⟨by omega, by omega⟩ (fun H locs hPz5 hW hS => ?_)
  refine W.eq (g2 := F0 m 3180 ls [.int r7, .int r3]) rfl ?_
  refine lv_icmp_eq (tgt := 3297) hx hb dL_law_3180 (by decide) (fun c9 => ?_) (fun c9 => ?_)
  · replace hf := ifT c9 hf
    obtain ⟨e1, e2⟩ := so2 hf
    subst e1
    subst e2
    refine W.widen (k := cells + 20) (n := slots + 8189) (by omega) (by omega) ?_
    exact kk ad K _ _ ls Ag.rf hW hS (lv_sub hl [0, 1, 2, 3, 4, 5] rfl)
  · replace hf := ifF c9 hf
    refine lv_iconst (v := 0) hx hb dL_law_3183 (by decide) ?_
    cases hf
set_option maxHeartbeats 4000000 in
set_option maxRecDepth 100000 in
theorem c_law57 {p : Program} {e : Env} {R : Room} {s : State} {m : MethodId} {below : List Frame} {meth : Method} {c : Code} {Q : State → Prop} {b L : Nat} {xs : Nat → Int32} {H : Heap} {locs : List Loc} {ls : Array Slot} {cells slots : Nat} (l : Launch) (hfl : l.stackTraces = false) (g : GP) (ad : Nat → Nat) (n : Nat) (K : Nat → Nat) (F : Nat) (S0 : St) (o1 o2 o3 o4 : Nat) (i : Int32) (hC : Cx g p s m #[.ref b] c cL_law RL lw_tbl 9) (hX : va_X b L xs s s.heap) (hbl : b < s.heap.size) (hGs : GF g (fun q : Nat => s.heap.size ≤ q) s s.heap) (hW : Wb g ad n K S0 (fun q : Nat => s.heap.size ≤ q) H) (hS : va_S (fun q : Nat => s.heap.size ≤ q) s.heap H locs) (t1 : o1 < n ∧ K o1 = 9) (t2 : o2 < n ∧ K o2 = 10) (t3 : o3 < n ∧ K o3 = 13) (t4 : o4 < n ∧ K o4 = 17) (hl : lv_has ls 9 [(5, .int i), (4, .ref (ad o4)), (3, .ref (ad o3)), (2, .ref (ad o2)), (1, .ref (ad o1)), (0, .ref b)]) (hRf : 13 ≤ R.frames) (hRl : 280 ≤ R.locals) (hRc : cells + 20 ≤ R.cells) (hRs : slots + 8189 ≤ R.slots) (S9 : St) (n9 : Nat) (hf : f_law57 F xs L S0 n o1 o2 o3 o4 i = some (S9, n9))
    (kk : ∀ (ad9 K9 : Nat → Nat) (H1 : Heap) (locs1 : List Loc) (ls1 : Array Slot), Ag ad K n ad9 K9 n9 → Wb g ad9 n9 K9 S9 (fun q : Nat => s.heap.size ≤ q) H1 → va_S (fun q : Nat => s.heap.size ≤ q) s.heap H1 locs1 → lv_has ls1 9 [(5, .int i), (4, .ref (ad9 o4)), (3, .ref (ad9 o3)), (2, .ref (ad9 o2)), (1, .ref (ad9 o1)), (0, .ref b)] → W p l e R s m #[.ref b] below meth c H1 locs1 (cells + 20) (slots + 8189) Q (F0 m 3297 ls1 [])) :
    W p l e R s m #[.ref b] below meth c H locs cells slots Q (F0 m 3185 ls []) := by
  have hx := hC.1
  have hb := hC.2.1
  have hml := hC.2.2.1
  have hown : s.vm.findClass RL = some m.cls := hC.2.2.2.1
  have hts := hC.2.2.2.2.1
  have hK := hC.2.2.2.2.2
  have hA : ∀ q : Nat, s.heap.size ≤ q → (fun q : Nat => s.heap.size ≤ q) q := fun _ h => h
  have hbA : ¬ (fun q : Nat => s.heap.size ≤ q) b := Nat.not_le.mpr hbl
  unfold f_law57 at hf
  refine lv_aload_n hx hb dL_law_3185 rfl (lv_at hl 4 rfl) ?_
  refine lv_aload_n hx hb dL_law_3186 rfl (lv_at hl 5 rfl) ?_
  refine lv_iload hx hb dL_law_3187 (lv_at hl 0 rfl) ?_
  refine lv_iconst (v := 1) hx hb dL_law_3189 (by decide) ?_
  refine lv_iadd hx hb dL_law_3190 ?_
  replace hf := ckiE hf
  obtain ⟨h1, hf⟩ := hf
  refine va_sld hx hb hX hbl hbA hS h1 dL_law_3191 ?_
  refine lv_aload_n hx hb dL_law_3192 rfl (lv_at hl 2 rfl) ?_
  replace hf := obE hf
  obtain ⟨z2, hz2, hf⟩ := hf
  obtain ⟨r4, S3⟩ := z2
  replace hf := ltE (ltE hf r4 rfl) S3 rfl
  refine x_callSWc (As := [.ref (ad o1), .int (xs (Int32.toNatClampNeg (i + 1))), .ref (ad o3)]) (rest := []) (o := (some (.int r4))) (S1 := S3) hC hl.1 hW hS hGs hA (c_L_writeMailbox l hfl g ad n K H.size F S0 o1 (xs (Int32.toNatClampNeg (i + 1))) o3 t1 t3 r4 S3 hz2) (vx_cwSW (hh := [(0, 9, 12, 31)]) 3 hts gL_law_L_writeMailbox rfl rfl rfl (by decide +kernel) ⟨Nat.le_trans (Nat.le_of_ble_eq_true rfl) hRf, Nat.le_trans (Nat.le_of_ble_eq_true rfl) hRl⟩) rfl rfl (Nat.le_of_ble_eq_true rfl) dL_law_3193 ⟨by omega, by omega⟩ (fun H locs hPz2 hW hS => ?_)
  refine W.widen (k := cells + 1) (n := slots + 6) (by omega) (by omega) ?_
  refine W.eq (g2 := F0 m 3196 ls [.int r4]) rfl ?_
  refine lv_istore (lv' := [(6, .int r4), (5, .int i), (4, .ref (ad o4)), (3, .ref (ad o3)), (2, .ref (ad o2)), (1, .ref (ad o1)), (0, .ref b)]) hx hb dL_law_3196 hl (by decide) rfl (fun ls hl => ?_)
  refine lv_aload_n hx hb dL_law_3198 rfl (lv_at hl 4 rfl) ?_
  refine lv_aload_n hx hb dL_law_3199 rfl (lv_at hl 6 rfl) ?_
  refine lv_iload hx hb dL_law_3200 (lv_at hl 1 rfl) ?_
  refine lv_iconst (v := 1) hx hb dL_law_3202 (by decide) ?_
  refine lv_iadd hx hb dL_law_3203 ?_
  replace hf := ckiE hf
  obtain ⟨h6, hf⟩ := hf
  refine va_sld hx hb hX hbl hbA hS h6 dL_law_3204 ?_
  replace hf := obE hf
  obtain ⟨z7, hz7, hf⟩ := hf
  obtain ⟨r9, S8⟩ := z7
  replace hf := ltE (ltE hf r9 rfl) S8 rfl
  refine x_callV (As := [.int (xs (Int32.toNatClampNeg (i + 1)))]) (rest := []) (o := (some (.int r9))) (S1 := S8) hC hl.1 hW hS hGs hA t2 rfl (show vwCl[10]? = some (RX11, TX11, 30) ∧ 10 < 11 from ⟨rfl, by decide⟩) (c_X11_writeMailbox l g ad n K H.size F S3 o2 (xs (Int32.toNatClampNeg (i + 1))) t2 r9 S8 hz7) (cwV 1 hts gL_law_X11_writeMailbox rfl rfl rfl (by decide +kernel) ⟨Nat.le_trans (Nat.le_of_ble_eq_true rfl) hRf, Nat.le_trans (Nat.le_of_ble_eq_true rfl) hRl⟩) rfl rfl (Nat.le_of_ble_eq_true rfl) dL_law_3205 ⟨by omega, by omega⟩ (fun H locs hPz7 hW hS => ?_)
  refine W.eq (g2 := F0 m 3208 ls [.int r9]) rfl ?_
  refine lv_istore (lv' := [(7, .int r9), (6, .int r4), (5, .int i), (4, .ref (ad o4)), (3, .ref (ad o3)), (2, .ref (ad o2)), (1, .ref (ad o1)), (0, .ref b)]) hx hb dL_law_3208 hl (by decide) rfl (fun ls hl => ?_)
  refine lv_aload_n hx hb dL_law_3210 rfl (lv_at hl 5 rfl) ?_
  replace hf := obE hf
  obtain ⟨z11, hz11, hf⟩ := hf
  obtain ⟨r13, S12⟩ := z11
  replace hf := ltE (ltE hf r13 rfl) S12 rfl
  refine x_callV (As := []) (rest := []) (o := (some (.int r13))) (S1 := S12) hC hl.1 hW hS hGs hA t2 rfl (show vwCl[10]? = some (RX11, TX11, 30) ∧ 10 < 11 from ⟨rfl, by decide⟩) (c_X11_thrown l g ad n K H.size F S8 o2 t2 r13 S12 hz11) (cwV 0 hts gL_law_X11_thrown rfl rfl rfl (by decide +kernel) ⟨Nat.le_trans (Nat.le_of_ble_eq_true rfl) hRf, Nat.le_trans (Nat.le_of_ble_eq_true rfl) hRl⟩) rfl rfl (Nat.le_of_ble_eq_true rfl) dL_law_3211 ⟨by omega, by omega⟩ (fun H locs hPz11 hW hS => ?_)
  refine W.eq (g2 := F0 m 3214 ls [.int r13]) rfl ?_
  refine lv_iload hx hb dL_law_3214 (lv_at hl 1 rfl) ?_
  refine lv_icmp_eq (tgt := 3221) hx hb dL_law_3216 (by decide) (fun c15 => ?_) (fun c15 => ?_)
  · replace hf := ifT c15 hf
    refine lv_iload hx hb dL_law_3221 (lv_at hl 1 rfl) ?_
    refine lv_if_ne (tgt := 3238) hx hb dL_law_3223 (by decide) (fun c16 => ?_) (fun c16 => ?_)
    · replace hf := ifT c16 hf
      refine lv_goto (tgt := 3297) hx hb dL_law_3238 (by decide) ?_
      obtain ⟨e1, e2⟩ := so2 hf
      subst e1
      subst e2
      refine W.widen (k := cells + 20) (n := slots + 8189) (by omega) (by omega) ?_
      exact kk ad K _ _ ls Ag.rf hW hS (lv_sub hl [2, 3, 4, 5, 6, 7] rfl)
    · replace hf := ifF (fun q => q c16) hf
      refine lv_aload_n hx hb dL_law_3226 rfl (lv_at hl 4 rfl) ?_
      refine lv_iconst (v := 0) hx hb dL_law_3227 (by decide) ?_
      replace hf := ckiE hf
      obtain ⟨h17, hf⟩ := hf
      refine x_lald hC hW t3 rfl rfl h17 dL_law_3228 ?_
      refine lv_iload hx hb dL_law_3229 (lv_at hl 0 rfl) ?_
      refine lv_i2l (v := r9.toInt64) hx hb dL_law_3231 rfl ?_
      refine W.lcmp hx hb dL_law_3232 ?_
      refine lv_if_eq (tgt := 3238) hx hb dL_law_3233 (by decide) (fun c18 => ?_) (fun c18 => ?_)
      · replace hf := ifT c18 hf
        refine lv_goto (tgt := 3297) hx hb dL_law_3238 (by decide) ?_
        obtain ⟨e1, e2⟩ := so2 hf
        subst e1
        subst e2
        refine W.widen (k := cells + 20) (n := slots + 8189) (by omega) (by omega) ?_
        exact kk ad K _ _ ls Ag.rf hW hS (lv_sub hl [2, 3, 4, 5, 6, 7] rfl)
      · replace hf := ifF c18 hf
        refine lv_iconst (v := 0) hx hb dL_law_3236 (by decide) ?_
        cases hf
  · replace hf := ifF c15 hf
    refine lv_iconst (v := 0) hx hb dL_law_3219 (by decide) ?_
    cases hf
set_option maxHeartbeats 4000000 in
set_option maxRecDepth 100000 in
theorem c_law58 {p : Program} {e : Env} {R : Room} {s : State} {m : MethodId} {below : List Frame} {meth : Method} {c : Code} {Q : State → Prop} {b L : Nat} {xs : Nat → Int32} {H : Heap} {locs : List Loc} {ls : Array Slot} {cells slots : Nat} (l : Launch) (hfl : l.stackTraces = false) (g : GP) (ad : Nat → Nat) (n : Nat) (K : Nat → Nat) (F : Nat) (S0 : St) (o1 o2 o3 o4 : Nat) (i : Int32) (hC : Cx g p s m #[.ref b] c cL_law RL lw_tbl 9) (hX : va_X b L xs s s.heap) (hbl : b < s.heap.size) (hGs : GF g (fun q : Nat => s.heap.size ≤ q) s s.heap) (hW : Wb g ad n K S0 (fun q : Nat => s.heap.size ≤ q) H) (hS : va_S (fun q : Nat => s.heap.size ≤ q) s.heap H locs) (t1 : o1 < n ∧ K o1 = 9) (t2 : o2 < n ∧ K o2 = 10) (t3 : o3 < n ∧ K o3 = 13) (t4 : o4 < n ∧ K o4 = 17) (hl : lv_has ls 9 [(5, .int i), (4, .ref (ad o4)), (3, .ref (ad o3)), (2, .ref (ad o2)), (1, .ref (ad o1)), (0, .ref b)]) (hRf : 13 ≤ R.frames) (hRl : 280 ≤ R.locals) (hRc : cells + 20 ≤ R.cells) (hRs : slots + 8189 ≤ R.slots) (S9 : St) (n9 : Nat) (hf : f_law58 F xs L S0 n o1 o2 o3 o4 i = some (S9, n9))
    (kk : ∀ (ad9 K9 : Nat → Nat) (H1 : Heap) (locs1 : List Loc) (ls1 : Array Slot), Ag ad K n ad9 K9 n9 → Wb g ad9 n9 K9 S9 (fun q : Nat => s.heap.size ≤ q) H1 → va_S (fun q : Nat => s.heap.size ≤ q) s.heap H1 locs1 → lv_has ls1 9 [(5, .int i), (4, .ref (ad9 o4)), (3, .ref (ad9 o3)), (2, .ref (ad9 o2)), (1, .ref (ad9 o1)), (0, .ref b)] → W p l e R s m #[.ref b] below meth c H1 locs1 (cells + 20) (slots + 8189) Q (F0 m 3297 ls1 [])) :
    W p l e R s m #[.ref b] below meth c H locs cells slots Q (F0 m 3241 ls []) := by
  have hx := hC.1
  have hb := hC.2.1
  have hml := hC.2.2.1
  have hown : s.vm.findClass RL = some m.cls := hC.2.2.2.1
  have hts := hC.2.2.2.2.1
  have hK := hC.2.2.2.2.2
  have hA : ∀ q : Nat, s.heap.size ≤ q → (fun q : Nat => s.heap.size ≤ q) q := fun _ h => h
  have hbA : ¬ (fun q : Nat => s.heap.size ≤ q) b := Nat.not_le.mpr hbl
  unfold f_law58 at hf
  refine lv_aload_n hx hb dL_law_3241 rfl (lv_at hl 4 rfl) ?_
  refine lv_aload_n hx hb dL_law_3242 rfl (lv_at hl 5 rfl) ?_
  refine lv_iload hx hb dL_law_3243 (lv_at hl 0 rfl) ?_
  refine lv_iconst (v := 1) hx hb dL_law_3245 (by decide) ?_
  refine lv_iadd hx hb dL_law_3246 ?_
  replace hf := ckiE hf
  obtain ⟨h1, hf⟩ := hf
  refine va_sld hx hb hX hbl hbA hS h1 dL_law_3247 ?_
  refine lv_aload_n hx hb dL_law_3248 rfl (lv_at hl 2 rfl) ?_
  replace hf := obE hf
  obtain ⟨z2, hz2, hf⟩ := hf
  obtain ⟨r4, S3⟩ := z2
  replace hf := ltE (ltE hf r4 rfl) S3 rfl
  refine x_callSWc (As := [.ref (ad o1), .int (xs (Int32.toNatClampNeg (i + 1))), .ref (ad o3)]) (rest := []) (o := (some (.int r4))) (S1 := S3) hC hl.1 hW hS hGs hA (c_L_outputByte l hfl g ad n K H.size F S0 o1 (xs (Int32.toNatClampNeg (i + 1))) o3 t1 t3 r4 S3 hz2) (vx_cwSW (hh := [(0, 9, 12, 84)]) 3 hts gL_law_L_outputByte rfl rfl rfl (by decide +kernel) ⟨Nat.le_trans (Nat.le_of_ble_eq_true rfl) hRf, Nat.le_trans (Nat.le_of_ble_eq_true rfl) hRl⟩) rfl rfl (Nat.le_of_ble_eq_true rfl) dL_law_3249 ⟨by omega, by omega⟩ (fun H locs hPz2 hW hS => ?_)
  refine W.widen (k := cells + 1) (n := slots + 6) (by omega) (by omega) ?_
  refine W.eq (g2 := F0 m 3252 ls [.int r4]) rfl ?_
  refine lv_istore (lv' := [(6, .int r4), (5, .int i), (4, .ref (ad o4)), (3, .ref (ad o3)), (2, .ref (ad o2)), (1, .ref (ad o1)), (0, .ref b)]) hx hb dL_law_3252 hl (by decide) rfl (fun ls hl => ?_)
  refine lv_aload_n hx hb dL_law_3254 rfl (lv_at hl 4 rfl) ?_
  refine lv_aload_n hx hb dL_law_3255 rfl (lv_at hl 6 rfl) ?_
  refine lv_iload hx hb dL_law_3256 (lv_at hl 1 rfl) ?_
  refine lv_iconst (v := 1) hx hb dL_law_3258 (by decide) ?_
  refine lv_iadd hx hb dL_law_3259 ?_
  replace hf := ckiE hf
  obtain ⟨h6, hf⟩ := hf
  refine va_sld hx hb hX hbl hbA hS h6 dL_law_3260 ?_
  replace hf := obE hf
  obtain ⟨z7, hz7, hf⟩ := hf
  obtain ⟨r9, S8⟩ := z7
  replace hf := ltE (ltE hf r9 rfl) S8 rfl
  refine x_callV (As := [.int (xs (Int32.toNatClampNeg (i + 1)))]) (rest := []) (o := (some (.int r9))) (S1 := S8) hC hl.1 hW hS hGs hA t2 rfl (show vwCl[10]? = some (RX11, TX11, 30) ∧ 10 < 11 from ⟨rfl, by decide⟩) (c_X11_outputByte l g ad n K H.size F S3 o2 (xs (Int32.toNatClampNeg (i + 1))) t2 r9 S8 hz7) (cwV 1 hts gL_law_X11_outputByte rfl rfl rfl (by decide +kernel) ⟨Nat.le_trans (Nat.le_of_ble_eq_true rfl) hRf, Nat.le_trans (Nat.le_of_ble_eq_true rfl) hRl⟩) rfl rfl (Nat.le_of_ble_eq_true rfl) dL_law_3261 ⟨by omega, by omega⟩ (fun H locs hPz7 hW hS => ?_)
  refine W.eq (g2 := F0 m 3264 ls [.int r9]) rfl ?_
  refine lv_istore (lv' := [(7, .int r9), (6, .int r4), (5, .int i), (4, .ref (ad o4)), (3, .ref (ad o3)), (2, .ref (ad o2)), (1, .ref (ad o1)), (0, .ref b)]) hx hb dL_law_3264 hl (by decide) rfl (fun ls hl => ?_)
  refine lv_aload_n hx hb dL_law_3266 rfl (lv_at hl 5 rfl) ?_
  replace hf := obE hf
  obtain ⟨z11, hz11, hf⟩ := hf
  obtain ⟨r13, S12⟩ := z11
  replace hf := ltE (ltE hf r13 rfl) S12 rfl
  refine x_callV (As := []) (rest := []) (o := (some (.int r13))) (S1 := S12) hC hl.1 hW hS hGs hA t2 rfl (show vwCl[10]? = some (RX11, TX11, 30) ∧ 10 < 11 from ⟨rfl, by decide⟩) (c_X11_thrown l g ad n K H.size F S8 o2 t2 r13 S12 hz11) (cwV 0 hts gL_law_X11_thrown rfl rfl rfl (by decide +kernel) ⟨Nat.le_trans (Nat.le_of_ble_eq_true rfl) hRf, Nat.le_trans (Nat.le_of_ble_eq_true rfl) hRl⟩) rfl rfl (Nat.le_of_ble_eq_true rfl) dL_law_3267 ⟨by omega, by omega⟩ (fun H locs hPz11 hW hS => ?_)
  refine W.eq (g2 := F0 m 3270 ls [.int r13]) rfl ?_
  refine lv_iload hx hb dL_law_3270 (lv_at hl 1 rfl) ?_
  refine lv_icmp_eq (tgt := 3277) hx hb dL_law_3272 (by decide) (fun c15 => ?_) (fun c15 => ?_)
  · replace hf := ifT c15 hf
    refine lv_iload hx hb dL_law_3277 (lv_at hl 1 rfl) ?_
    refine lv_if_ne (tgt := 3294) hx hb dL_law_3279 (by decide) (fun c16 => ?_) (fun c16 => ?_)
    · replace hf := ifT c16 hf
      refine lv_goto (tgt := 3297) hx hb dL_law_3294 (by decide) ?_
      obtain ⟨e1, e2⟩ := so2 hf
      subst e1
      subst e2
      refine W.widen (k := cells + 20) (n := slots + 8189) (by omega) (by omega) ?_
      exact kk ad K _ _ ls Ag.rf hW hS (lv_sub hl [2, 3, 4, 5, 6, 7] rfl)
    · replace hf := ifF (fun q => q c16) hf
      refine lv_aload_n hx hb dL_law_3282 rfl (lv_at hl 4 rfl) ?_
      refine lv_iconst (v := 0) hx hb dL_law_3283 (by decide) ?_
      replace hf := ckiE hf
      obtain ⟨h17, hf⟩ := hf
      refine x_lald hC hW t3 rfl rfl h17 dL_law_3284 ?_
      refine lv_iload hx hb dL_law_3285 (lv_at hl 0 rfl) ?_
      refine lv_i2l (v := r9.toInt64) hx hb dL_law_3287 rfl ?_
      refine W.lcmp hx hb dL_law_3288 ?_
      refine lv_if_eq (tgt := 3294) hx hb dL_law_3289 (by decide) (fun c18 => ?_) (fun c18 => ?_)
      · replace hf := ifT c18 hf
        refine lv_goto (tgt := 3297) hx hb dL_law_3294 (by decide) ?_
        obtain ⟨e1, e2⟩ := so2 hf
        subst e1
        subst e2
        refine W.widen (k := cells + 20) (n := slots + 8189) (by omega) (by omega) ?_
        exact kk ad K _ _ ls Ag.rf hW hS (lv_sub hl [2, 3, 4, 5, 6, 7] rfl)
      · replace hf := ifF c18 hf
        refine lv_iconst (v := 0) hx hb dL_law_3292 (by decide) ?_
        cases hf
  · replace hf := ifF c15 hf
    refine lv_iconst (v := 0) hx hb dL_law_3275 (by decide) ?_
    cases hf
