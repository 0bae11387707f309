set_option maxHeartbeats 4000000 in
set_option maxRecDepth 100000 in
theorem c_law29 {p : Program} {e : Env} {R : Room} {s : State} {m : MethodId} {below : List Frame} {meth : Method} {c : Code} {Q : State → Prop} {b L : Nat} {xs : Nat → Int32} {H : Heap} {locs : List Loc} {ls : Array Slot} {cells slots : Nat} (l : Launch) (hfl : l.stackTraces = false) (g : GP) (ad : Nat → Nat) (n : Nat) (K : Nat → Nat) (F : Nat) (S0 : St) (o1 o2 o3 o4 : Nat) (i : Int32) (hC : Cx g p s m #[.ref b] c cL_law RL lw_tbl 9) (hX : va_X b L xs s s.heap) (hbl : b < s.heap.size) (hGs : GF g (fun q : Nat => s.heap.size ≤ q) s s.heap) (hW : Wb g ad n K S0 (fun q : Nat => s.heap.size ≤ q) H) (hS : va_S (fun q : Nat => s.heap.size ≤ q) s.heap H locs) (t1 : o1 < n ∧ K o1 = 9) (t2 : o2 < n ∧ K o2 = 10) (t3 : o3 < n ∧ K o3 = 13) (t4 : o4 < n ∧ K o4 = 17) (hl : lv_has ls 9 [(5, .int i), (4, .ref (ad o4)), (3, .ref (ad o3)), (2, .ref (ad o2)), (1, .ref (ad o1)), (0, .ref b)]) (hRf : 13 ≤ R.frames) (hRl : 280 ≤ R.locals) (hRc : cells + 20 ≤ R.cells) (hRs : slots + 8189 ≤ R.slots) (S9 : St) (n9 : Nat) (hf : f_law29 F xs L S0 n o1 o2 o3 o4 i = some (S9, n9))
    (kk : ∀ (ad9 K9 : Nat → Nat) (H1 : Heap) (locs1 : List Loc) (ls1 : Array Slot), Ag ad K n ad9 K9 n9 → Wb g ad9 n9 K9 S9 (fun q : Nat => s.heap.size ≤ q) H1 → va_S (fun q : Nat => s.heap.size ≤ q) s.heap H1 locs1 → lv_has ls1 9 [(5, .int i), (4, .ref (ad9 o4)), (3, .ref (ad9 o3)), (2, .ref (ad9 o2)), (1, .ref (ad9 o1)), (0, .ref b)] → W p l e R s m #[.ref b] below meth c H1 locs1 (cells + 20) (slots + 8189) Q (F0 m 3297 ls1 [])) :
    W p l e R s m #[.ref b] below meth c H locs cells slots Q (F0 m 1809 ls []) := by
  have hx := hC.1
  have hb := hC.2.1
  have hml := hC.2.2.1
  have hown : s.vm.findClass RL = some m.cls := hC.2.2.2.1
  have hts := hC.2.2.2.2.1
  have hK := hC.2.2.2.2.2
  have hA : ∀ q : Nat, s.heap.size ≤ q → (fun q : Nat => s.heap.size ≤ q) q := fun _ h => h
  have hbA : ¬ (fun q : Nat => s.heap.size ≤ q) b := Nat.not_le.mpr hbl
  unfold f_law29 at hf
  refine lv_aload_n hx hb dL_law_1809 rfl (lv_at hl 4 rfl) ?_
  replace hf := obE hf
  obtain ⟨z1, hz1, hf⟩ := hf
  obtain ⟨r3, S2⟩ := z1
  replace hf := ltE (ltE hf r3 rfl) S2 rfl
  refine x_callV (As := []) (rest := []) (o := (some (.int r3))) (S1 := S2) hC hl.1 hW hS hGs hA t1 rfl (show vwCl[9]? = some (RX10, TX10, 11) ∧ 9 < 11 from ⟨rfl, by decide⟩) (c_X10_storedBytes l g ad n K H.size F S0 o1 t1 r3 S2 hz1) (cwV 0 hts gL_law_X10_storedBytes rfl rfl rfl (by decide +kernel) ⟨Nat.le_trans (Nat.le_of_ble_eq_true rfl) hRf, Nat.le_trans (Nat.le_of_ble_eq_true rfl) hRl⟩) rfl rfl (Nat.le_of_ble_eq_true rfl) dL_law_1810 ⟨by omega, by omega⟩ (fun H locs hPz1 hW hS => ?_)
  refine W.eq (g2 := F0 m 1813 ls [.int r3]) rfl ?_
  refine lv_aload_n hx hb dL_law_1813 rfl (lv_at hl 3 rfl) ?_
  replace hf := obE hf
  obtain ⟨z5, hz5, hf⟩ := hf
  obtain ⟨r7, S6⟩ := z5
  replace hf := ltE (ltE hf r7 rfl) S6 rfl
  refine x_callV (As := []) (rest := [.int r3]) (o := (some (.int r7))) (S1 := S6) hC hl.1 hW hS hGs hA t2 rfl (show vwCl[10]? = some (RX11, TX11, 30) ∧ 10 < 11 from ⟨rfl, by decide⟩) (c_X11_storedBytes l g ad n K H.size F S2 o2 t2 r7 S6 hz5) (cwV 0 hts gL_law_X11_storedBytes rfl rfl rfl (by decide +kernel) ⟨Nat.le_trans (Nat.le_of_ble_eq_true rfl) hRf, Nat.le_trans (Nat.le_of_ble_eq_true rfl) hRl⟩) rfl rfl (Nat.le_of_ble_eq_true rfl) dL_law_1814 ⟨by omega, by omega⟩ (fun H locs hPz5 hW hS => ?_)
  refine W.eq (g2 := F0 m 1817 ls [.int r7, .int r3]) rfl ?_
  refine lv_icmp_eq (tgt := 3297) hx hb dL_law_1817 (by decide) (fun c9 => ?_) (fun c9 => ?_)
  · replace hf := ifT c9 hf
    obtain ⟨e1, e2⟩ := so2 hf
    subst e1
    subst e2
    refine W.widen (k := cells + 20) (n := slots + 8189) (by omega) (by omega) ?_
    exact kk ad K _ _ ls Ag.rf hW hS (lv_sub hl [0, 1, 2, 3, 4, 5] rfl)
  · replace hf := ifF c9 hf
    refine lv_iconst (v := 0) hx hb dL_law_1820 (by decide) ?_
    cases hf
set_option maxHeartbeats 4000000 in
set_option maxRecDepth 100000 in
theorem c_law30 {p : Program} {e : Env} {R : Room} {s : State} {m : MethodId} {below : List Frame} {meth : Method} {c : Code} {Q : State → Prop} {b L : Nat} {xs : Nat → Int32} {H : Heap} {locs : List Loc} {ls : Array Slot} {cells slots : Nat} (l : Launch) (hfl : l.stackTraces = false) (g : GP) (ad : Nat → Nat) (n : Nat) (K : Nat → Nat) (F : Nat) (S0 : St) (o1 o2 o3 o4 : Nat) (i : Int32) (hC : Cx g p s m #[.ref b] c cL_law RL lw_tbl 9) (hX : va_X b L xs s s.heap) (hbl : b < s.heap.size) (hGs : GF g (fun q : Nat => s.heap.size ≤ q) s s.heap) (hW : Wb g ad n K S0 (fun q : Nat => s.heap.size ≤ q) H) (hS : va_S (fun q : Nat => s.heap.size ≤ q) s.heap H locs) (t1 : o1 < n ∧ K o1 = 9) (t2 : o2 < n ∧ K o2 = 10) (t3 : o3 < n ∧ K o3 = 13) (t4 : o4 < n ∧ K o4 = 17) (hl : lv_has ls 9 [(5, .int i), (4, .ref (ad o4)), (3, .ref (ad o3)), (2, .ref (ad o2)), (1, .ref (ad o1)), (0, .ref b)]) (hRf : 13 ≤ R.frames) (hRl : 280 ≤ R.locals) (hRc : cells + 20 ≤ R.cells) (hRs : slots + 8189 ≤ R.slots) (S9 : St) (n9 : Nat) (hf : f_law30 F xs L S0 n o1 o2 o3 o4 i = some (S9, n9))
    (kk : ∀ (ad9 K9 : Nat → Nat) (H1 : Heap) (locs1 : List Loc) (ls1 : Array Slot), Ag ad K n ad9 K9 n9 → Wb g ad9 n9 K9 S9 (fun q : Nat => s.heap.size ≤ q) H1 → va_S (fun q : Nat => s.heap.size ≤ q) s.heap H1 locs1 → lv_has ls1 9 [(5, .int i), (4, .ref (ad9 o4)), (3, .ref (ad9 o3)), (2, .ref (ad9 o2)), (1, .ref (ad9 o1)), (0, .ref b)] → W p l e R s m #[.ref b] below meth c H1 locs1 (cells + 20) (slots + 8189) Q (F0 m 3297 ls1 [])) :
    W p l e R s m #[.ref b] below meth c H locs cells slots Q (F0 m 1822 ls []) := by
  have hx := hC.1
  have hb := hC.2.1
  have hml := hC.2.2.1
  have hown : s.vm.findClass RL = some m.cls := hC.2.2.2.1
  have hts := hC.2.2.2.2.1
  have hK := hC.2.2.2.2.2
  have hA : ∀ q : Nat, s.heap.size ≤ q → (fun q : Nat => s.heap.size ≤ q) q := fun _ h => h
  have hbA : ¬ (fun q : Nat => s.heap.size ≤ q) b := Nat.not_le.mpr hbl
  unfold f_law30 at hf
  refine lv_aload_n hx hb dL_law_1822 rfl (lv_at hl 4 rfl) ?_
  replace hf := obE hf
  obtain ⟨z1, hz1, hf⟩ := hf
  obtain ⟨r3, S2⟩ := z1
  replace hf := ltE (ltE hf r3 rfl) S2 rfl
  refine x_callV (As := []) (rest := []) (o := (some (.int r3))) (S1 := S2) hC hl.1 hW hS hGs hA t1 rfl (show vwCl[9]? = some (RX10, TX10, 11) ∧ 9 < 11 from ⟨rfl, by decide⟩) (c_X10_deadBytes l g ad n K H.size F S0 o1 t1 r3 S2 hz1) (cwV 0 hts gL_law_X10_deadBytes rfl rfl rfl (by decide +kernel) ⟨Nat.le_trans (Nat.le_of_ble_eq_true rfl) hRf, Nat.le_trans (Nat.le_of_ble_eq_true rfl) hRl⟩) rfl rfl (Nat.le_of_ble_eq_true rfl) dL_law_1823 ⟨by omega, by omega⟩ (fun H locs hPz1 hW hS => ?_)
  refine W.eq (g2 := F0 m 1826 ls [.int r3]) rfl ?_
  refine lv_aload_n hx hb dL_law_1826 rfl (lv_at hl 3 rfl) ?_
  replace hf := obE hf
  obtain ⟨z5, hz5, hf⟩ := hf
  obtain ⟨r7, S6⟩ := z5
  replace hf := ltE (ltE hf r7 rfl) S6 rfl
  refine x_callV (As := []) (rest := [.int r3]) (o := (some (.int r7))) (S1 := S6) hC hl.1 hW hS hGs hA t2 rfl (show vwCl[10]? = some (RX11, TX11, 30) ∧ 10 < 11 from ⟨rfl, by decide⟩) (c_X11_deadBytes l g ad n K H.size F S2 o2 t2 r7 S6 hz5) (cwV 0 hts gL_law_X11_deadBytes rfl rfl rfl (by decide +kernel) ⟨Nat.le_trans (Nat.le_of_ble_eq_true rfl) hRf, Nat.le_trans (Nat.le_of_ble_eq_true rfl) hRl⟩) rfl rfl (Nat.le_of_ble_eq_true rfl) dL_law_1827 ⟨by omega, by omega⟩ (fun H locs hPz5 hW hS => ?_)
  refine W.eq (g2 := F0 m 1830 ls [.int r7, .int r3]) rfl ?_
  refine lv_icmp_eq (tgt := 3297) hx hb dL_law_1830 (by decide) (fun c9 => ?_) (fun c9 => ?_)
  · replace hf := ifT c9 hf
    obtain ⟨e1, e2⟩ := so2 hf
    subst e1
    subst e2
    refine W.widen (k := cells + 20) (n := slots + 8189) (by omega) (by omega) ?_
    exact kk ad K _ _ ls Ag.rf hW hS (lv_sub hl [0, 1, 2, 3, 4, 5] rfl)
  · replace hf := ifF c9 hf
    refine lv_iconst (v := 0) hx hb dL_law_1833 (by decide) ?_
    cases hf
set_option maxHeartbeats 4000000 in
set_option maxRecDepth 100000 in
theorem c_law31 {p : Program} {e : Env} {R : Room} {s : State} {m : MethodId} {below : List Frame} {meth : Method} {c : Code} {Q : State → Prop} {b L : Nat} {xs : Nat → Int32} {H : Heap} {locs : List Loc} {ls : Array Slot} {cells slots : Nat} (l : Launch) (hfl : l.stackTraces = false) (g : GP) (ad : Nat → Nat) (n : Nat) (K : Nat → Nat) (F : Nat) (S0 : St) (o1 o2 o3 o4 : Nat) (i : Int32) (hC : Cx g p s m #[.ref b] c cL_law RL lw_tbl 9) (hX : va_X b L xs s s.heap) (hbl : b < s.heap.size) (hGs : GF g (fun q : Nat => s.heap.size ≤ q) s s.heap) (hW : Wb g ad n K S0 (fun q : Nat => s.heap.size ≤ q) H) (hS : va_S (fun q : Nat => s.heap.size ≤ q) s.heap H locs) (t1 : o1 < n ∧ K o1 = 9) (t2 : o2 < n ∧ K o2 = 10) (t3 : o3 < n ∧ K o3 = 13) (t4 : o4 < n ∧ K o4 = 17) (hl : lv_has ls 9 [(5, .int i), (4, .ref (ad o4)), (3, .ref (ad o3)), (2, .ref (ad o2)), (1, .ref (ad o1)), (0, .ref b)]) (hRf : 13 ≤ R.frames) (hRl : 280 ≤ R.locals) (hRc : cells + 20 ≤ R.cells) (hRs : slots + 8189 ≤ R.slots) (S9 : St) (n9 : Nat) (hf : f_law31 F xs L S0 n o1 o2 o3 o4 i = some (S9, n9))
    (kk : ∀ (ad9 K9 : Nat → Nat) (H1 : Heap) (locs1 : List Loc) (ls1 : Array Slot), Ag ad K n ad9 K9 n9 → Wb g ad9 n9 K9 S9 (fun q : Nat => s.heap.size ≤ q) H1 → va_S (fun q : Nat => s.heap.size ≤ q) s.heap H1 locs1 → lv_has ls1 9 [(5, .int i), (4, .ref (ad9 o4)), (3, .ref (ad9 o3)), (2, .ref (ad9 o2)), (1, .ref (ad9 o1)), (0, .ref b)] → W p l e R s m #[.ref b] below meth c H1 locs1 (cells + 20) (slots + 8189) Q (F0 m 3297 ls1 [])) :
    W p l e R s m #[.ref b] below meth c H locs cells slots Q (F0 m 1835 ls []) := by
  have hx := hC.1
  have hb := hC.2.1
  have hml := hC.2.2.1
  have hown : s.vm.findClass RL = some m.cls := hC.2.2.2.1
  have hts := hC.2.2.2.2.1
  have hK := hC.2.2.2.2.2
  have hA : ∀ q : Nat, s.heap.size ≤ q → (fun q : Nat => s.heap.size ≤ q) q := fun _ h => h
  have hbA : ¬ (fun q : Nat => s.heap.size ≤ q) b := Nat.not_le.mpr hbl
  unfold f_law31 at hf
  refine lv_aload_n hx hb dL_law_1835 rfl (lv_at hl 4 rfl) ?_
  replace hf := obE hf
  obtain ⟨z1, hz1, hf⟩ := hf
  obtain ⟨r3, S2⟩ := z1
  replace hf := ltE (ltE hf r3 rfl) S2 rfl
  refine x_callV (As := []) (rest := []) (o := (some (.int r3))) (S1 := S2) hC hl.1 hW hS hGs hA t1 rfl (show vwCl[9]? = some (RX10, TX10, 11) ∧ 9 < 11 from ⟨rfl, by decide⟩) (c_X10_logicalBytes l g ad n K H.size F S0 o1 t1 r3 S2 hz1) (cwV 0 hts gL_law_X10_logicalBytes rfl rfl rfl (by decide +kernel) ⟨Nat.le_trans (Nat.le_of_ble_eq_true rfl) hRf, Nat.le_trans (Nat.le_of_ble_eq_true rfl) hRl⟩) rfl rfl (Nat.le_of_ble_eq_true rfl) dL_law_1836 ⟨by omega, by omega⟩ (fun H locs hPz1 hW hS => ?_)
  refine W.eq (g2 := F0 m 1839 ls [.int r3]) rfl ?_
  refine lv_aload_n hx hb dL_law_1839 rfl (lv_at hl 3 rfl) ?_
  replace hf := obE hf
  obtain ⟨z5, hz5, hf⟩ := hf
  obtain ⟨r7, S6⟩ := z5
  replace hf := ltE (ltE hf r7 rfl) S6 rfl
  refine x_callV (As := []) (rest := [.int r3]) (o := (some (.int r7))) (S1 := S6) hC hl.1 hW hS hGs hA t2 rfl (show vwCl[10]? = some (RX11, TX11, 30) ∧ 10 < 11 from ⟨rfl, by decide⟩) (c_X11_logicalBytes l g ad n K H.size F S2 o2 t2 r7 S6 hz5) (cwV 0 hts gL_law_X11_logicalBytes rfl rfl rfl (by decide +kernel) ⟨Nat.le_trans (Nat.le_of_ble_eq_true rfl) hRf, Nat.le_trans (Nat.le_of_ble_eq_true rfl) hRl⟩) rfl rfl (Nat.le_of_ble_eq_true rfl) dL_law_1840 ⟨by omega, by omega⟩ (fun H locs hPz5 hW hS => ?_)
  refine W.eq (g2 := F0 m 1843 ls [.int r7, .int r3]) rfl ?_
  refine lv_icmp_eq (tgt := 3297) hx hb dL_law_1843 (by decide) (fun c9 => ?_) (fun c9 => ?_)
  · replace hf := ifT c9 hf
    obtain ⟨e1, e2⟩ := so2 hf
    subst e1
    subst e2
    refine W.widen (k := cells + 20) (n := slots + 8189) (by omega) (by omega) ?_
    exact kk ad K _ _ ls Ag.rf hW hS (lv_sub hl [0, 1, 2, 3, 4, 5] rfl)
  · replace hf := ifF c9 hf
    refine lv_iconst (v := 0) hx hb dL_law_1846 (by decide) ?_
    cases hf
set_option maxHeartbeats 4000000 in
set_option maxRecDepth 100000 in
theorem c_law32 {p : Program} {e : Env} {R : Room} {s : State} {m : MethodId} {below : List Frame} {meth : Method} {c : Code} {Q : State → Prop} {b L : Nat} {xs : Nat → Int32} {H : Heap} {locs : List Loc} {ls : Array Slot} {cells slots : Nat} (l : Launch) (hfl : l.stackTraces = false) (g : GP) (ad : Nat → Nat) (n : Nat) (K : Nat → Nat) (F : Nat) (S0 : St) (o1 o2 o3 o4 : Nat) (i : Int32) (hC : Cx g p s m #[.ref b] c cL_law RL lw_tbl 9) (hX : va_X b L xs s s.heap) (hbl : b < s.heap.size) (hGs : GF g (fun q : Nat => s.heap.size ≤ q) s s.heap) (hW : Wb g ad n K S0 (fun q : Nat => s.heap.size ≤ q) H) (hS : va_S (fun q : Nat => s.heap.size ≤ q) s.heap H locs) (t1 : o1 < n ∧ K o1 = 9) (t2 : o2 < n ∧ K o2 = 10) (t3 : o3 < n ∧ K o3 = 13) (t4 : o4 < n ∧ K o4 = 17) (hl : lv_has ls 9 [(5, .int i), (4, .ref (ad o4)), (3, .ref (ad o3)), (2, .ref (ad o2)), (1, .ref (ad o1)), (0, .ref b)]) (hRf : 13 ≤ R.frames) (hRl : 280 ≤ R.locals) (hRc : cells + 20 ≤ R.cells) (hRs : slots + 8189 ≤ R.slots) (S9 : St) (n9 : Nat) (hf : f_law32 F xs L S0 n o1 o2 o3 o4 i = some (S9, n9))
    (kk : ∀ (ad9 K9 : Nat → Nat) (H1 : Heap) (locs1 : List Loc) (ls1 : Array Slot), Ag ad K n ad9 K9 n9 → Wb g ad9 n9 K9 S9 (fun q : Nat => s.heap.size ≤ q) H1 → va_S (fun q : Nat => s.heap.size ≤ q) s.heap H1 locs1 → lv_has ls1 9 [(5, .int i), (4, .ref (ad9 o4)), (3, .ref (ad9 o3)), (2, .ref (ad9 o2)), (1, .ref (ad9 o1)), (0, .ref b)] → W p l e R s m #[.ref b] below meth c H1 locs1 (cells + 20) (slots + 8189) Q (F0 m 3297 ls1 [])) :
    W p l e R s m #[.ref b] below meth c H locs cells slots Q (F0 m 1848 ls []) := by
  have hx := hC.1
  have hb := hC.2.1
  have hml := hC.2.2.1
  have hown : s.vm.findClass RL = some m.cls := hC.2.2.2.1
  have hts := hC.2.2.2.2.1
  have hK := hC.2.2.2.2.2
  have hA : ∀ q : Nat, s.heap.size ≤ q → (fun q : Nat => s.heap.size ≤ q) q := fun _ h => h
  have hbA : ¬ (fun q : Nat => s.heap.size ≤ q) b := Nat.not_le.mpr hbl
  unfold f_law32 at hf
  refine lv_aload_n hx hb dL_law_1848 rfl (lv_at hl 4 rfl) ?_
  replace hf := obE hf
  obtain ⟨z1, hz1, hf⟩ := hf
  obtain ⟨r3, S2⟩ := z1
  replace hf := ltE (ltE hf r3 rfl) S2 rfl
  refine x_callV (As := []) (rest := []) (o := (some (.int r3))) (S1 := S2) hC hl.1 hW hS hGs hA t1 rfl (show vwCl[9]? = some (RX10, TX10, 11) ∧ 9 < 11 from ⟨rfl, by decide⟩) (c_X10_mostShared l g ad n K H.size F S0 o1 t1 r3 S2 hz1) (cwV 0 hts gL_law_X10_mostShared rfl rfl rfl (by decide +kernel) ⟨Nat.le_trans (Nat.le_of_ble_eq_true rfl) hRf, Nat.le_trans (Nat.le_of_ble_eq_true rfl) hRl⟩) rfl rfl (Nat.le_of_ble_eq_true rfl) dL_law_1849 ⟨by omega, by omega⟩ (fun H locs hPz1 hW hS => ?_)
  refine W.eq (g2 := F0 m 1852 ls [.int r3]) rfl ?_
  refine lv_aload_n hx hb dL_law_1852 rfl (lv_at hl 3 rfl) ?_
  replace hf := obE hf
  obtain ⟨z5, hz5, hf⟩ := hf
  obtain ⟨r7, S6⟩ := z5
  replace hf := ltE (ltE hf r7 rfl) S6 rfl
  refine x_callV (As := []) (rest := [.int r3]) (o := (some (.int r7))) (S1 := S6) hC hl.1 hW hS hGs hA t2 rfl (show vwCl[10]? = some (RX11, TX11, 30) ∧ 10 < 11 from ⟨rfl, by decide⟩) (c_X11_mostShared l g ad n K H.size F S2 o2 t2 r7 S6 hz5) (cwV 0 hts gL_law_X11_mostShared rfl rfl rfl (by decide +kernel) ⟨Nat.le_trans (Nat.le_of_ble_eq_true rfl) hRf, Nat.le_trans (Nat.le_of_ble_eq_true rfl) hRl⟩) rfl rfl (Nat.le_of_ble_eq_true rfl) dL_law_1853 ⟨by omega, by omega⟩ (fun H locs hPz5 hW hS => ?_)
  refine W.eq (g2 := F0 m 1856 ls [.int r7, .int r3]) rfl ?_
  refine lv_icmp_eq (tgt := 3297) hx hb dL_law_1856 (by decide) (fun c9 => ?_) (fun c9 => ?_)
  · replace hf := ifT c9 hf
    obtain ⟨e1, e2⟩ := so2 hf
    subst e1
    subst e2
    refine W.widen (k := cells + 20) (n := slots + 8189) (by omega) (by omega) ?_
    exact kk ad K _ _ ls Ag.rf hW hS (lv_sub hl [0, 1, 2, 3, 4, 5] rfl)
  · replace hf := ifF c9 hf
    refine lv_iconst (v := 0) hx hb dL_law_1859 (by decide) ?_
    cases hf
set_option maxHeartbeats 4000000 in
set_option maxRecDepth 100000 in
theorem c_law33 {p : Program} {e : Env} {R : Room} {s : State} {m : MethodId} {below : List Frame} {meth : Method} {c : Code} {Q : State → Prop} {b L : Nat} {xs : Nat → Int32} {H : Heap} {locs : List Loc} {ls : Array Slot} {cells slots : Nat} (l : Launch) (hfl : l.stackTraces = false) (g : GP) (ad : Nat → Nat) (n : Nat) (K : Nat → Nat) (F : Nat) (S0 : St) (o1 o2 o3 o4 : Nat) (i : Int32) (hC : Cx g p s m #[.ref b] c cL_law RL lw_tbl 9) (hX : va_X b L xs s s.heap) (hbl : b < s.heap.size) (hGs : GF g (fun q : Nat => s.heap.size ≤ q) s s.heap) (hW : Wb g ad n K S0 (fun q : Nat => s.heap.size ≤ q) H) (hS : va_S (fun q : Nat => s.heap.size ≤ q) s.heap H locs) (t1 : o1 < n ∧ K o1 = 9) (t2 : o2 < n ∧ K o2 = 10) (t3 : o3 < n ∧ K o3 = 13) (t4 : o4 < n ∧ K o4 = 17) (hl : lv_has ls 9 [(5, .int i), (4, .ref (ad o4)), (3, .ref (ad o3)), (2, .ref (ad o2)), (1, .ref (ad o1)), (0, .ref b)]) (hRf : 13 ≤ R.frames) (hRl : 280 ≤ R.locals) (hRc : cells + 20 ≤ R.cells) (hRs : slots + 8189 ≤ R.slots) (S9 : St) (n9 : Nat) (hf : f_law33 F xs L S0 n o1 o2 o3 o4 i = some (S9, n9))
    (kk : ∀ (ad9 K9 : Nat → Nat) (H1 : Heap) (locs1 : List Loc) (ls1 : Array Slot), Ag ad K n ad9 K9 n9 → Wb g ad9 n9 K9 S9 (fun q : Nat => s.heap.size ≤ q) H1 → va_S (fun q : Nat => s.heap.size ≤ q) s.heap H1 locs1 → lv_has ls1 9 [(5, .int i), (4, .ref (ad9 o4)), (3, .ref (ad9 o3)), (2, .ref (ad9 o2)), (1, .ref (ad9 o1)), (0, .ref b)] → W p l e R s m #[.ref b] below meth c H1 locs1 (cells + 20) (slots + 8189) Q (F0 m 3297 ls1 [])) :
    W p l e R s m #[.ref b] below meth c H locs cells slots Q (F0 m 1861 ls []) := by
  have hx := hC.1
  have hb := hC.2.1
  have hml := hC.2.2.1
  have hown : s.vm.findClass RL = some m.cls := hC.2.2.2.1
  have hts := hC.2.2.2.2.1
  have hK := hC.2.2.2.2.2
  have hA : ∀ q : Nat, s.heap.size ≤ q → (fun q : Nat => s.heap.size ≤ q) q := fun _ h => h
  have hbA : ¬ (fun q : Nat => s.heap.size ≤ q) b := Nat.not_le.mpr hbl
  unfold f_law33 at hf
  refine lv_aload_n hx hb dL_law_1861 rfl (lv_at hl 4 rfl) ?_
  refine lv_aload_n hx hb dL_law_1862 rfl (lv_at hl 5 rfl) ?_
  refine lv_iload hx hb dL_law_1863 (lv_at hl 0 rfl) ?_
  refine lv_iconst (v := 1) hx hb dL_law_1865 (by decide) ?_
  refine lv_iadd hx hb dL_law_1866 ?_
  replace hf := ckiE hf
  obtain ⟨h1, hf⟩ := hf
  refine va_sld hx hb hX hbl hbA hS h1 dL_law_1867 ?_
  refine lv_aload_n hx hb dL_law_1868 rfl (lv_at hl 2 rfl) ?_
  replace hf := obE hf
  obtain ⟨z2, hz2, hf⟩ := hf
  obtain ⟨r4, S3⟩ := z2
  replace hf := ltE (ltE hf r4 rfl) S3 rfl
  refine x_callSWc (As := [.ref (ad o1), .int (xs (Int32.toNatClampNeg (i + 1))), .ref (ad o3)]) (rest := []) (o := (some (.int r4))) (S1 := S3) hC hl.1 hW hS hGs hA (c_L_usage l hfl g ad n K H.size F S0 o1 (xs (Int32.toNatClampNeg (i + 1))) o3 t1 t3 r4 S3 hz2) (vx_cwSW (hh := [(0, 9, 12, 31)]) 3 hts gL_law_L_usage rfl rfl rfl (by decide +kernel) ⟨Nat.le_trans (Nat.le_of_ble_eq_true rfl) hRf, Nat.le_trans (Nat.le_of_ble_eq_true rfl) hRl⟩) rfl rfl (Nat.le_of_ble_eq_true rfl) dL_law_1869 ⟨by omega, by omega⟩ (fun H locs hPz2 hW hS => ?_)
  refine W.widen (k := cells + 1) (n := slots + 6) (by omega) (by omega) ?_
  refine W.eq (g2 := F0 m 1872 ls [.int r4]) rfl ?_
  refine lv_istore (lv' := [(6, .int r4), (5, .int i), (4, .ref (ad o4)), (3, .ref (ad o3)), (2, .ref (ad o2)), (1, .ref (ad o1)), (0, .ref b)]) hx hb dL_law_1872 hl (by decide) rfl (fun ls hl => ?_)
  refine lv_aload_n hx hb dL_law_1874 rfl (lv_at hl 4 rfl) ?_
  refine lv_aload_n hx hb dL_law_1875 rfl (lv_at hl 6 rfl) ?_
  refine lv_iload hx hb dL_law_1876 (lv_at hl 1 rfl) ?_
  refine lv_iconst (v := 1) hx hb dL_law_1878 (by decide) ?_
  refine lv_iadd hx hb dL_law_1879 ?_
  replace hf := ckiE hf
  obtain ⟨h6, hf⟩ := hf
  refine va_sld hx hb hX hbl hbA hS h6 dL_law_1880 ?_
  replace hf := obE hf
  obtain ⟨z7, hz7, hf⟩ := hf
  obtain ⟨r9, S8⟩ := z7
  replace hf := ltE (ltE hf r9 rfl) S8 rfl
  refine x_callV (As := [.int (xs (Int32.toNatClampNeg (i + 1)))]) (rest := []) (o := (some (.int r9))) (S1 := S8) hC hl.1 hW hS hGs hA t2 rfl (show vwCl[10]? = some (RX11, TX11, 30) ∧ 10 < 11 from ⟨rfl, by decide⟩) (c_X11_usage l g ad n K H.size F S3 o2 (xs (Int32.toNatClampNeg (i + 1))) t2 r9 S8 hz7) (cwV 1 hts gL_law_X11_usage rfl rfl rfl (by decide +kernel) ⟨Nat.le_trans (Nat.le_of_ble_eq_true rfl) hRf, Nat.le_trans (Nat.le_of_ble_eq_true rfl) hRl⟩) rfl rfl (Nat.le_of_ble_eq_true rfl) dL_law_1881 ⟨by omega, by omega⟩ (fun H locs hPz7 hW hS => ?_)
  refine W.eq (g2 := F0 m 1884 ls [.int r9]) rfl ?_
  refine lv_istore (lv' := [(7, .int r9), (6, .int r4), (5, .int i), (4, .ref (ad o4)), (3, .ref (ad o3)), (2, .ref (ad o2)), (1, .ref (ad o1)), (0, .ref b)]) hx hb dL_law_1884 hl (by decide) rfl (fun ls hl => ?_)
  refine lv_aload_n hx hb dL_law_1886 rfl (lv_at hl 5 rfl) ?_
  replace hf := obE hf
  obtain ⟨z11, hz11, hf⟩ := hf
  obtain ⟨r13, S12⟩ := z11
  replace hf := ltE (ltE hf r13 rfl) S12 rfl
  refine x_callV (As := []) (rest := []) (o := (some (.int r13))) (S1 := S12) hC hl.1 hW hS hGs hA t2 rfl (show vwCl[10]? = some (RX11, TX11, 30) ∧ 10 < 11 from ⟨rfl, by decide⟩) (c_X11_thrown l g ad n K H.size F S8 o2 t2 r13 S12 hz11) (cwV 0 hts gL_law_X11_thrown rfl rfl rfl (by decide +kernel) ⟨Nat.le_trans (Nat.le_of_ble_eq_true rfl) hRf, Nat.le_trans (Nat.le_of_ble_eq_true rfl) hRl⟩) rfl rfl (Nat.le_of_ble_eq_true rfl) dL_law_1887 ⟨by omega, by omega⟩ (fun H locs hPz11 hW hS => ?_)
  refine W.eq (g2 := F0 m 1890 ls [.int r13]) rfl ?_
  refine lv_iload hx hb dL_law_1890 (lv_at hl 1 rfl) ?_
  refine lv_icmp_eq (tgt := 1897) hx hb dL_law_1892 (by decide) (fun c15 => ?_) (fun c15 => ?_)
  · replace hf := ifT c15 hf
    refine lv_iload hx hb dL_law_1897 (lv_at hl 1 rfl) ?_
    refine lv_if_ne (tgt := 1914) hx hb dL_law_1899 (by decide) (fun c16 => ?_) (fun c16 => ?_)
    · replace hf := ifT c16 hf
      refine lv_goto (tgt := 3297) hx hb dL_law_1914 (by decide) ?_
      obtain ⟨e1, e2⟩ := so2 hf
      subst e1
      subst e2
      refine W.widen (k := cells + 20) (n := slots + 8189) (by omega) (by omega) ?_
      exact kk ad K _ _ ls Ag.rf hW hS (lv_sub hl [2, 3, 4, 5, 6, 7] rfl)
    · replace hf := ifF (fun q => q c16) hf
      refine lv_aload_n hx hb dL_law_1902 rfl (lv_at hl 4 rfl) ?_
      refine lv_iconst (v := 0) hx hb dL_law_1903 (by decide) ?_
      replace hf := ckiE hf
      obtain ⟨h17, hf⟩ := hf
      refine x_lald hC hW t3 rfl rfl h17 dL_law_1904 ?_
      refine lv_iload hx hb dL_law_1905 (lv_at hl 0 rfl) ?_
      refine lv_i2l (v := r9.toInt64) hx hb dL_law_1907 rfl ?_
      refine W.lcmp hx hb dL_law_1908 ?_
      refine lv_if_eq (tgt := 1914) hx hb dL_law_1909 (by decide) (fun c18 => ?_) (fun c18 => ?_)
      · replace hf := ifT c18 hf
        refine lv_goto (tgt := 3297) hx hb dL_law_1914 (by decide) ?_
        obtain ⟨e1, e2⟩ := so2 hf
        subst e1
        subst e2
        refine W.widen (k := cells + 20) (n := slots + 8189) (by omega) (by omega) ?_
        exact kk ad K _ _ ls Ag.rf hW hS (lv_sub hl [2, 3, 4, 5, 6, 7] rfl)
      · replace hf := ifF c18 hf
        refine lv_iconst (v := 0) hx hb dL_law_1912 (by decide) ?_
        cases hf
  · replace hf := ifF c15 hf
    refine lv_iconst (v := 0) hx hb dL_law_1895 (by decide) ?_
    cases hf
set_option maxHeartbeats 4000000 in
set_option maxRecDepth 100000 in
theorem c_law34 {p : Program} {e : Env} {R : Room} {s : State} {m : MethodId} {below : List Frame} {meth : Method} {c : Code} {Q : State → Prop} {b L : Nat} {xs : Nat → Int32} {H : Heap} {locs : List Loc} {ls : Array Slot} {cells slots : Nat} (l : Launch) (hfl : l.stackTraces = false) (g : GP) (ad : Nat → Nat) (n : Nat) (K : Nat → Nat) (F : Nat) (S0 : St) (o1 o2 o3 o4 : Nat) (i : Int32) (hC : Cx g p s m #[.ref b] c cL_law RL lw_tbl 9) (hX : va_X b L xs s s.heap) (hbl : b < s.heap.size) (hGs : GF g (fun q : Nat => s.heap.size ≤ q) s s.heap) (hW : Wb g ad n K S0 (fun q : Nat => s.heap.size ≤ q) H) (hS : va_S (fun q : Nat => s.heap.size ≤ q) s.heap H locs) (t1 : o1 < n ∧ K o1 = 9) (t2 : o2 < n ∧ K o2 = 10) (t3 : o3 < n ∧ K o3 = 13) (t4 : o4 < n ∧ K o4 = 17) (hl : lv_has ls 9 [(5, .int i), (4, .ref (ad o4)), (3, .ref (ad o3)), (2, .ref (ad o2)), (1, .ref (ad o1)), (0, .ref b)]) (hRf : 13 ≤ R.frames) (hRl : 280 ≤ R.locals) (hRc : cells + 20 ≤ R.cells) (hRs : slots + 8189 ≤ R.slots) (S9 : St) (n9 : Nat) (hf : f_law34 F xs L S0 n o1 o2 o3 o4 i = some (S9, n9))
    (kk : ∀ (ad9 K9 : Nat → Nat) (H1 : Heap) (locs1 : List Loc) (ls1 : Array Slot), Ag ad K n ad9 K9 n9 → Wb g ad9 n9 K9 S9 (fun q : Nat => s.heap.size ≤ q) H1 → va_S (fun q : Nat => s.heap.size ≤ q) s.heap H1 locs1 → lv_has ls1 9 [(5, .int i), (4, .ref (ad9 o4)), (3, .ref (ad9 o3)), (2, .ref (ad9 o2)), (1, .ref (ad9 o1)), (0, .ref b)] → W p l e R s m #[.ref b] below meth c H1 locs1 (cells + 20) (slots + 8189) Q (F0 m 3297 ls1 [])) :
    W p l e R s m #[.ref b] below meth c H locs cells slots Q (F0 m 1917 ls []) := by
  have hx := hC.1
  have hb := hC.2.1
  have hml := hC.2.2.1
  have hown : s.vm.findClass RL = some m.cls := hC.2.2.2.1
  have hts := hC.2.2.2.2.1
  have hK := hC.2.2.2.2.2
  have hA : ∀ q : Nat, s.heap.size ≤ q → (fun q : Nat => s.heap.size ≤ q) q := fun _ h => h
  have hbA : ¬ (fun q : Nat => s.heap.size ≤ q) b := Nat.not_le.mpr hbl
  unfold f_law34 at hf
  refine lv_aload_n hx hb dL_law_1917 rfl (lv_at hl 4 rfl) ?_
  refine lv_aload_n hx hb dL_law_1918 rfl (lv_at hl 5 rfl) ?_
  refine lv_iload hx hb dL_law_1919 (lv_at hl 0 rfl) ?_
  refine lv_iconst (v := 1) hx hb dL_law_1921 (by decide) ?_
  refine lv_iadd hx hb dL_law_1922 ?_
  replace hf := ckiE hf
  obtain ⟨h1, hf⟩ := hf
  refine va_sld hx hb hX hbl hbA hS h1 dL_law_1923 ?_
  refine lv_aload_n hx hb dL_law_1924 rfl (lv_at hl 2 rfl) ?_
  replace hf := obE hf
  obtain ⟨z2, hz2, hf⟩ := hf
  obtain ⟨r4, S3⟩ := z2
  replace hf := ltE (ltE hf r4 rfl) S3 rfl
  refine x_callSWc (As := [.ref (ad o1), .int (xs (Int32.toNatClampNeg (i + 1))), .ref (ad o3)]) (rest := []) (o := (some (.int r4))) (S1 := S3) hC hl.1 hW hS hGs hA (c_L_quota l hfl g ad n K H.size F S0 o1 (xs (Int32.toNatClampNeg (i + 1))) o3 t1 t3 r4 S3 hz2) (vx_cwSW (hh := [(0, 9, 12, 31)]) 3 hts gL_law_L_quota rfl rfl rfl (by decide +kernel) ⟨Nat.le_trans (Nat.le_of_ble_eq_true rfl) hRf, Nat.le_trans (Nat.le_of_ble_eq_true rfl) hRl⟩) rfl rfl (Nat.le_of_ble_eq_true rfl) dL_law_1925 ⟨by omega, by omega⟩ (fun H locs hPz2 hW hS => ?_)
  refine W.widen (k := cells + 1) (n := slots + 6) (by omega) (by omega) ?_
  refine W.eq (g2 := F0 m 1928 ls [.int r4]) rfl ?_
  refine lv_istore (lv' := [(6, .int r4), (5, .int i), (4, .ref (ad o4)), (3, .ref (ad o3)), (2, .ref (ad o2)), (1, .ref (ad o1)), (0, .ref b)]) hx hb dL_law_1928 hl (by decide) rfl (fun ls hl => ?_)
  refine lv_aload_n hx hb dL_law_1930 rfl (lv_at hl 4 rfl) ?_
  refine lv_aload_n hx hb dL_law_1931 rfl (lv_at hl 6 rfl) ?_
  refine lv_iload hx hb dL_law_1932 (lv_at hl 1 rfl) ?_
  refine lv_iconst (v := 1) hx hb dL_law_1934 (by decide) ?_
  refine lv_iadd hx hb dL_law_1935 ?_
  replace hf := ckiE hf
  obtain ⟨h6, hf⟩ := hf
  refine va_sld hx hb hX hbl hbA hS h6 dL_law_1936 ?_
  replace hf := obE hf
  obtain ⟨z7, hz7, hf⟩ := hf
  obtain ⟨r9, S8⟩ := z7
  replace hf := ltE (ltE hf r9 rfl) S8 rfl
  refine x_callV (As := [.int (xs (Int32.toNatClampNeg (i + 1)))]) (rest := []) (o := (some (.int r9))) (S1 := S8) hC hl.1 hW hS hGs hA t2 rfl (show vwCl[10]? = some (RX11, TX11, 30) ∧ 10 < 11 from ⟨rfl, by decide⟩) (c_X11_quota l g ad n K H.size F S3 o2 (xs (Int32.toNatClampNeg (i + 1))) t2 r9 S8 hz7) (cwV 1 hts gL_law_X11_quota rfl rfl rfl (by decide +kernel) ⟨Nat.le_trans (Nat.le_of_ble_eq_true rfl) hRf, Nat.le_trans (Nat.le_of_ble_eq_true rfl) hRl⟩) rfl rfl (Nat.le_of_ble_eq_true rfl) dL_law_1937 ⟨by omega, by omega⟩ (fun H locs hPz7 hW hS => ?_)
  refine W.eq (g2 := F0 m 1940 ls [.int r9]) rfl ?_
  refine lv_istore (lv' := [(7, .int r9), (6, .int r4), (5, .int i), (4, .ref (ad o4)), (3, .ref (ad o3)), (2, .ref (ad o2)), (1, .ref (ad o1)), (0, .ref b)]) hx hb dL_law_1940 hl (by decide) rfl (fun ls hl => ?_)
  refine lv_aload_n hx hb dL_law_1942 rfl (lv_at hl 5 rfl) ?_
  replace hf := obE hf
  obtain ⟨z11, hz11, hf⟩ := hf
  obtain ⟨r13, S12⟩ := z11
  replace hf := ltE (ltE hf r13 rfl) S12 rfl
  refine x_callV (As := []) (rest := []) (o := (some (.int r13))) (S1 := S12) hC hl.1 hW hS hGs hA t2 rfl (show vwCl[10]? = some (RX11, TX11, 30) ∧ 10 < 11 from ⟨rfl, by decide⟩) (c_X11_thrown l g ad n K H.size F S8 o2 t2 r13 S12 hz11) (cwV 0 hts gL_law_X11_thrown rfl rfl rfl (by decide +kernel) ⟨Nat.le_trans (Nat.le_of_ble_eq_true rfl) hRf, Nat.le_trans (Nat.le_of_ble_eq_true rfl) hRl⟩) rfl rfl (Nat.le_of_ble_eq_true rfl) dL_law_1943 ⟨by omega, by omega⟩ (fun H locs hPz11 hW hS => ?_)
  refine W.eq (g2 := F0 m 1946 ls [.int r13]) rfl ?_
  refine lv_iload hx hb dL_law_1946 (lv_at hl 1 rfl) ?_
  refine lv_icmp_eq (tgt := 1953) hx hb dL_law_1948 (by decide) (fun c15 => ?_) (fun c15 => ?_)
  · replace hf := ifT c15 hf
    refine lv_iload hx hb dL_law_1953 (lv_at hl 1 rfl) ?_
    refine lv_if_ne (tgt := 1970) hx hb dL_law_1955 (by decide) (fun c16 => ?_) (fun c16 => ?_)
    · replace hf := ifT c16 hf
      refine lv_goto (tgt := 3297) hx hb dL_law_1970 (by decide) ?_
      obtain ⟨e1, e2⟩ := so2 hf
      subst e1
      subst e2
      refine W.widen (k := cells + 20) (n := slots + 8189) (by omega) (by omega) ?_
      exact kk ad K _ _ ls Ag.rf hW hS (lv_sub hl [2, 3, 4, 5, 6, 7] rfl)
    · replace hf := ifF (fun q => q c16) hf
      refine lv_aload_n hx hb dL_law_1958 rfl (lv_at hl 4 rfl) ?_
      refine lv_iconst (v := 0) hx hb dL_law_1959 (by decide) ?_
      replace hf := ckiE hf
      obtain ⟨h17, hf⟩ := hf
      refine x_lald hC hW t3 rfl rfl h17 dL_law_1960 ?_
      refine lv_iload hx hb dL_law_1961 (lv_at hl 0 rfl) ?_
      refine lv_i2l (v := r9.toInt64) hx hb dL_law_1963 rfl ?_
      refine W.lcmp hx hb dL_law_1964 ?_
      refine lv_if_eq (tgt := 1970) hx hb dL_law_1965 (by decide) (fun c18 => ?_) (fun c18 => ?_)
      · replace hf := ifT c18 hf
        refine lv_goto (tgt := 3297) hx hb dL_law_1970 (by decide) ?_
        obtain ⟨e1, e2⟩ := so2 hf
        subst e1
        subst e2
        refine W.widen (k := cells + 20) (n := slots + 8189) (by omega) (by omega) ?_
        exact kk ad K _ _ ls Ag.rf hW hS (lv_sub hl [2, 3, 4, 5, 6, 7] rfl)
      · replace hf := ifF c18 hf
        refine lv_iconst (v := 0) hx hb dL_law_1968 (by decide) ?_
        cases hf
  · replace hf := ifF c15 hf
    refine lv_iconst (v := 0) hx hb dL_law_1951 (by decide) ?_
    cases hf
set_option maxHeartbeats 4000000 in
set_option maxRecDepth 100000 in
theorem c_law35 {p : Program} {e : Env} {R : Room} {s : State} {m : MethodId} {below : List Frame} {meth : Method} {c : Code} {Q : State → Prop} {b L : Nat} {xs : Nat → Int32} {H : Heap} {locs : List Loc} {ls : Array Slot} {cells slots : Nat} (l : Launch) (hfl : l.stackTraces = false) (g : GP) (ad : Nat → Nat) (n : Nat) (K : Nat → Nat) (F : Nat) (S0 : St) (o1 o2 o3 o4 : Nat) (i : Int32) (hC : Cx g p s m #[.ref b] c cL_law RL lw_tbl 9) (hX : va_X b L xs s s.heap) (hbl : b < s.heap.size) (hGs : GF g (fun q : Nat => s.heap.size ≤ q) s s.heap) (hW : Wb g ad n K S0 (fun q : Nat => s.heap.size ≤ q) H) (hS : va_S (fun q : Nat => s.heap.size ≤ q) s.heap H locs) (t1 : o1 < n ∧ K o1 = 9) (t2 : o2 < n ∧ K o2 = 10) (t3 : o3 < n ∧ K o3 = 13) (t4 : o4 < n ∧ K o4 = 17) (hl : lv_has ls 9 [(5, .int i), (4, .ref (ad o4)), (3, .ref (ad o3)), (2, .ref (ad o2)), (1, .ref (ad o1)), (0, .ref b)]) (hRf : 13 ≤ R.frames) (hRl : 280 ≤ R.locals) (hRc : cells + 20 ≤ R.cells) (hRs : slots + 8189 ≤ R.slots) (S9 : St) (n9 : Nat) (hf : f_law35 F xs L S0 n o1 o2 o3 o4 i = some (S9, n9))
    (kk : ∀ (ad9 K9 : Nat → Nat) (H1 : Heap) (locs1 : List Loc) (ls1 : Array Slot), Ag ad K n ad9 K9 n9 → Wb g ad9 n9 K9 S9 (fun q : Nat => s.heap.size ≤ q) H1 → va_S (fun q : Nat => s.heap.size ≤ q) s.heap H1 locs1 → lv_has ls1 9 [(5, .int i), (4, .ref (ad9 o4)), (3, .ref (ad9 o3)), (2, .ref (ad9 o2)), (1, .ref (ad9 o1)), (0, .ref b)] → W p l e R s m #[.ref b] below meth c H1 locs1 (cells + 20) (slots + 8189) Q (F0 m 3297 ls1 [])) :
    W p l e R s m #[.ref b] below meth c H locs cells slots Q (F0 m 1973 ls []) := by
  have hx := hC.1
  have hb := hC.2.1
  have hml := hC.2.2.1
  have hown : s.vm.findClass RL = some m.cls := hC.2.2.2.1
  have hts := hC.2.2.2.2.1
  have hK := hC.2.2.2.2.2
  have hA : ∀ q : Nat, s.heap.size ≤ q → (fun q : Nat => s.heap.size ≤ q) q := fun _ h => h
  have hbA : ¬ (fun q : Nat => s.heap.size ≤ q) b := Nat.not_le.mpr hbl
  unfold f_law35 at hf
  refine lv_aload_n hx hb dL_law_1973 rfl (lv_at hl 4 rfl) ?_
  refine lv_aload_n hx hb dL_law_1974 rfl (lv_at hl 5 rfl) ?_
  refine lv_iload hx hb dL_law_1975 (lv_at hl 0 rfl) ?_
  refine lv_iconst (v := 1) hx hb dL_law_1977 (by decide) ?_
  refine lv_iadd hx hb dL_law_1978 ?_
  replace hf := ckiE hf
  obtain ⟨h1, hf⟩ := hf
  refine va_sld hx hb hX hbl hbA hS h1 dL_law_1979 ?_
  refine lv_aload hx hb dL_law_1980 (lv_at hl 1 rfl) ?_
  replace hf := obE hf
  obtain ⟨z2, hz2, hf⟩ := hf
  obtain ⟨r4, S3⟩ := z2
  replace hf := ltE (ltE hf r4 rfl) S3 rfl
  refine x_callSWc (As := [.ref (ad o1), .int (xs (Int32.toNatClampNeg (i + 1))), .ref (ad o4)]) (rest := []) (o := (some (.int r4))) (S1 := S3) hC hl.1 hW hS hGs hA (c_L_fairShare l hfl g ad n K H.size F S0 o1 (xs (Int32.toNatClampNeg (i + 1))) o4 t1 t4 r4 S3 hz2) (vx_cwSW (hh := [(0, 8, 11, 31)]) 3 hts gL_law_L_fairShare rfl rfl rfl (by decide +kernel) ⟨Nat.le_trans (Nat.le_of_ble_eq_true rfl) hRf, Nat.le_trans (Nat.le_of_ble_eq_true rfl) hRl⟩) rfl rfl (Nat.le_of_ble_eq_true rfl) dL_law_1982 ⟨by omega, by omega⟩ (fun H locs hPz2 hW hS => ?_)
  refine W.widen (k := cells + 1) (n := slots + 6) (by omega) (by omega) ?_
  refine W.eq (g2 := F0 m 1985 ls [.int r4]) rfl ?_
  refine lv_istore (lv' := [(6, .int r4), (5, .int i), (4, .ref (ad o4)), (3, .ref (ad o3)), (2, .ref (ad o2)), (1, .ref (ad o1)), (0, .ref b)]) hx hb dL_law_1985 hl (by decide) rfl (fun ls hl => ?_)
  refine lv_aload_n hx hb dL_law_1987 rfl (lv_at hl 4 rfl) ?_
  refine lv_aload_n hx hb dL_law_1988 rfl (lv_at hl 6 rfl) ?_
  refine lv_iload hx hb dL_law_1989 (lv_at hl 1 rfl) ?_
  refine lv_iconst (v := 1) hx hb dL_law_1991 (by decide) ?_
  refine lv_iadd hx hb dL_law_1992 ?_
  replace hf := ckiE hf
  obtain ⟨h6, hf⟩ := hf
  refine va_sld hx hb hX hbl hbA hS h6 dL_law_1993 ?_
  replace hf := obE hf
  obtain ⟨z7, hz7, hf⟩ := hf
  obtain ⟨r9, S8⟩ := z7
  replace hf := ltE (ltE hf r9 rfl) S8 rfl
  refine x_callV (As := [.int (xs (Int32.toNatClampNeg (i + 1)))]) (rest := []) (o := (some (.double (r9)))) (S1 := S8) hC hl.1 hW hS hGs hA t2 rfl (show vwCl[10]? = some (RX11, TX11, 30) ∧ 10 < 11 from ⟨rfl, by decide⟩) (c_X11_fairShare l g ad n K H.size F S3 o2 (xs (Int32.toNatClampNeg (i + 1))) t2 r9 S8 hz7) (cwV 1 hts gL_law_X11_fairShare rfl rfl rfl (by decide +kernel) ⟨Nat.le_trans (Nat.le_of_ble_eq_true rfl) hRf, Nat.le_trans (Nat.le_of_ble_eq_true rfl) hRl⟩) rfl rfl (Nat.le_of_ble_eq_true rfl) dL_law_1994 ⟨by omega, by omega⟩ (fun H locs hPz7 hW hS => ?_)
  refine W.eq (g2 := F0 m 1997 ls [.double (r9)]) rfl ?_
  refine lv_dstore (lv' := [(7, .double (r9)), (6, .int r4), (5, .int i), (4, .ref (ad o4)), (3, .ref (ad o3)), (2, .ref (ad o2)), (1, .ref (ad o1)), (0, .ref b)]) hx hb dL_law_1997 hl (by decide) rfl (fun ls hl => ?_)
  refine lv_aload_n hx hb dL_law_1999 rfl (lv_at hl 5 rfl) ?_
  replace hf := obE hf
  obtain ⟨z11, hz11, hf⟩ := hf
  obtain ⟨r13, S12⟩ := z11
  replace hf := ltE (ltE hf r13 rfl) S12 rfl
  refine x_callV (As := []) (rest := []) (o := (some (.int r13))) (S1 := S12) hC hl.1 hW hS hGs hA t2 rfl (show vwCl[10]? = some (RX11, TX11, 30) ∧ 10 < 11 from ⟨rfl, by decide⟩) (c_X11_thrown l g ad n K H.size F S8 o2 t2 r13 S12 hz11) (cwV 0 hts gL_law_X11_thrown rfl rfl rfl (by decide +kernel) ⟨Nat.le_trans (Nat.le_of_ble_eq_true rfl) hRf, Nat.le_trans (Nat.le_of_ble_eq_true rfl) hRl⟩) rfl rfl (Nat.le_of_ble_eq_true rfl) dL_law_2000 ⟨by omega, by omega⟩ (fun H locs hPz11 hW hS => ?_)
  refine W.eq (g2 := F0 m 2003 ls [.int r13]) rfl ?_
  refine lv_iload hx hb dL_law_2003 (lv_at hl 1 rfl) ?_
  refine lv_icmp_eq (tgt := 2010) hx hb dL_law_2005 (by decide) (fun c15 => ?_) (fun c15 => ?_)
  · replace hf := ifT c15 hf
    refine lv_iload hx hb dL_law_2010 (lv_at hl 1 rfl) ?_
    refine lv_if_ne (tgt := 2047) hx hb dL_law_2012 (by decide) (fun c16 => ?_) (fun c16 => ?_)
    · replace hf := ifT c16 hf
      refine lv_goto (tgt := 3297) hx hb dL_law_2047 (by decide) ?_
      obtain ⟨e1, e2⟩ := so2 hf
      subst e1
      subst e2
      refine W.widen (k := cells + 20) (n := slots + 8189) (by omega) (by omega) ?_
      exact kk ad K _ _ ls Ag.rf hW hS (lv_sub hl [2, 3, 4, 5, 6, 7] rfl)
    · replace hf := ifF (fun q => q c16) hf
      refine lv_aload hx hb dL_law_2015 (lv_at hl 3 rfl) ?_
      refine lv_iconst (v := 0) hx hb dL_law_2017 (by decide) ?_
      replace hf := ckiE hf
      obtain ⟨h17, hf⟩ := hf
      refine x_dald hC hW t4 rfl rfl h17 dL_law_2018 ?_
      refine lv_dload hx hb dL_law_2019 (lv_at hl 0 rfl) ?_
      refine lv_dcmp hx hb dL_law_2021 ?_
      refine lv_if_eq (tgt := 2047) hx hb dL_law_2022 (by decide) (fun c18 => ?_) (fun c18 => ?_)
      · replace hf := ifT c18 hf
        refine lv_goto (tgt := 3297) hx hb dL_law_2047 (by decide) ?_
        obtain ⟨e1, e2⟩ := so2 hf
        subst e1
        subst e2
        refine W.widen (k := cells + 20) (n := slots + 8189) (by omega) (by omega) ?_
        exact kk ad K _ _ ls Ag.rf hW hS (lv_sub hl [2, 3, 4, 5, 6, 7] rfl)
      · replace hf := ifF c18 hf
        refine lv_aload hx hb dL_law_2025 (lv_at hl 3 rfl) ?_
        refine lv_iconst (v := 0) hx hb dL_law_2027 (by decide) ?_
        replace hf := ckiE hf
        obtain ⟨h19, hf⟩ := hf
        refine x_dald hC hW t4 rfl rfl h19 dL_law_2028 ?_
        refine lv_aload hx hb dL_law_2029 (lv_at hl 3 rfl) ?_
        refine lv_iconst (v := 0) hx hb dL_law_2031 (by decide) ?_
        replace hf := ckiE hf
        obtain ⟨h20, hf⟩ := hf
        refine x_dald hC hW t4 rfl rfl h20 dL_law_2032 ?_
        refine lv_dcmp hx hb dL_law_2033 ?_
        refine lv_if_eq (tgt := 2045) hx hb dL_law_2034 (by decide) (fun c21 => ?_) (fun c21 => ?_)
        · replace hf := ifT c21 hf
          refine lv_iconst (v := 0) hx hb dL_law_2045 (by decide) ?_
          cases hf
        · replace hf := ifF c21 hf
          refine lv_dload hx hb dL_law_2037 (lv_at hl 0 rfl) ?_
          refine lv_dload hx hb dL_law_2039 (lv_at hl 0 rfl) ?_
          refine lv_dcmp hx hb dL_law_2041 ?_
          refine lv_if_ne (tgt := 2047) hx hb dL_law_2042 (by decide) (fun c22 => ?_) (fun c22 => ?_)
          · replace hf := ifT c22 hf
            refine lv_goto (tgt := 3297) hx hb dL_law_2047 (by decide) ?_
            obtain ⟨e1, e2⟩ := so2 hf
            subst e1
            subst e2
            refine W.widen (k := cells + 20) (n := slots + 8189) (by omega) (by omega) ?_
            exact kk ad K _ _ ls Ag.rf hW hS (lv_sub hl [2, 3, 4, 5, 6, 7] rfl)
          · replace hf := ifF (fun q => q c22) hf
            refine lv_iconst (v := 0) hx hb dL_law_2045 (by decide) ?_
            cases hf
  · replace hf := ifF c15 hf
    refine lv_iconst (v := 0) hx hb dL_law_2008 (by decide) ?_
    cases hf
set_option maxHeartbeats 4000000 in
set_option maxRecDepth 100000 in
theorem c_law36 {p : Program} {e : Env} {R : Room} {s : State} {m : MethodId} {below : List Frame} {meth : Method} {c : Code} {Q : State → Prop} {b L : Nat} {xs : Nat → Int32} {H : Heap} {locs : List Loc} {ls : Array Slot} {cells slots : Nat} (l : Launch) (hfl : l.stackTraces = false) (g : GP) (ad : Nat → Nat) (n : Nat) (K : Nat → Nat) (F : Nat) (S0 : St) (o1 o2 o3 o4 : Nat) (i : Int32) (hC : Cx g p s m #[.ref b] c cL_law RL lw_tbl 9) (hX : va_X b L xs s s.heap) (hbl : b < s.heap.size) (hGs : GF g (fun q : Nat => s.heap.size ≤ q) s s.heap) (hW : Wb g ad n K S0 (fun q : Nat => s.heap.size ≤ q) H) (hS : va_S (fun q : Nat => s.heap.size ≤ q) s.heap H locs) (t1 : o1 < n ∧ K o1 = 9) (t2 : o2 < n ∧ K o2 = 10) (t3 : o3 < n ∧ K o3 = 13) (t4 : o4 < n ∧ K o4 = 17) (hl : lv_has ls 9 [(5, .int i), (4, .ref (ad o4)), (3, .ref (ad o3)), (2, .ref (ad o2)), (1, .ref (ad o1)), (0, .ref b)]) (hRf : 13 ≤ R.frames) (hRl : 280 ≤ R.locals) (hRc : cells + 20 ≤ R.cells) (hRs : slots + 8189 ≤ R.slots) (S9 : St) (n9 : Nat) (hf : f_law36 F xs L S0 n o1 o2 o3 o4 i = some (S9, n9))
    (kk : ∀ (ad9 K9 : Nat → Nat) (H1 : Heap) (locs1 : List Loc) (ls1 : Array Slot), Ag ad K n ad9 K9 n9 → Wb g ad9 n9 K9 S9 (fun q : Nat => s.heap.size ≤ q) H1 → va_S (fun q : Nat => s.heap.size ≤ q) s.heap H1 locs1 → lv_has ls1 9 [(5, .int i), (4, .ref (ad9 o4)), (3, .ref (ad9 o3)), (2, .ref (ad9 o2)), (1, .ref (ad9 o1)), (0, .ref b)] → W p l e R s m #[.ref b] below meth c H1 locs1 (cells + 20) (slots + 8189) Q (F0 m 3297 ls1 [])) :
    W p l e R s m #[.ref b] below meth c H locs cells slots Q (F0 m 2050 ls []) := by
  have hx := hC.1
  have hb := hC.2.1
  have hml := hC.2.2.1
  have hown : s.vm.findClass RL = some m.cls := hC.2.2.2.1
  have hts := hC.2.2.2.2.1
  have hK := hC.2.2.2.2.2
  have hA : ∀ q : Nat, s.heap.size ≤ q → (fun q : Nat => s.heap.size ≤ q) q := fun _ h => h
  have hbA : ¬ (fun q : Nat => s.heap.size ≤ q) b := Nat.not_le.mpr hbl
  unfold f_law36 at hf
  refine lv_aload_n hx hb dL_law_2050 rfl (lv_at hl 4 rfl) ?_
  refine lv_aload_n hx hb dL_law_2051 rfl (lv_at hl 5 rfl) ?_
  refine lv_iload hx hb dL_law_2052 (lv_at hl 0 rfl) ?_
  refine lv_iconst (v := 1) hx hb dL_law_2054 (by decide) ?_
  refine lv_iadd hx hb dL_law_2055 ?_
  replace hf := ckiE hf
  obtain ⟨h1, hf⟩ := hf
  refine va_sld hx hb hX hbl hbA hS h1 dL_law_2056 ?_
  refine lv_aload_n hx hb dL_law_2057 rfl (lv_at hl 5 rfl) ?_
  refine lv_iload hx hb dL_law_2058 (lv_at hl 0 rfl) ?_
  refine lv_iconst (v := 2) hx hb dL_law_2060 (by decide) ?_
  refine lv_iadd hx hb dL_law_2061 ?_
  replace hf := ckiE hf
  obtain ⟨h2, hf⟩ := hf
  refine va_sld hx hb hX hbl hbA hS h2 dL_law_2062 ?_
  refine lv_aload_n hx hb dL_law_2063 rfl (lv_at hl 2 rfl) ?_
  replace hf := obE hf
  obtain ⟨z3, hz3, hf⟩ := hf
  obtain ⟨r5, S4⟩ := z3
  replace hf := ltE (ltE hf r5 rfl) S4 rfl
  refine x_callSWc (As := [.ref (ad o1), .int (xs (Int32.toNatClampNeg (i + 1))), .int (xs (Int32.toNatClampNeg (i + 2))), .ref (ad o3)]) (rest := []) (o := (some (.int r5))) (S1 := S4) hC hl.1 hW hS hGs hA (c_L_inClass l hfl g ad n K H.size F S0 o1 (xs (Int32.toNatClampNeg (i + 1))) (xs (Int32.toNatClampNeg (i + 2))) o3 t1 t3 r5 S4 hz3) (vx_cwSW (hh := [(0, 10, 13, 31)]) 4 hts gL_law_L_inClass rfl rfl rfl (by decide +kernel) ⟨Nat.le_trans (Nat.le_of_ble_eq_true rfl) hRf, Nat.le_trans (Nat.le_of_ble_eq_true rfl) hRl⟩) rfl rfl (Nat.le_of_ble_eq_true rfl) dL_law_2064 ⟨by omega, by omega⟩ (fun H locs hPz3 hW hS => ?_)
  refine W.widen (k := cells + 2) (n := slots + 12) (by omega) (by omega) ?_
  refine W.eq (g2 := F0 m 2067 ls [.int r5]) rfl ?_
  refine lv_istore (lv' := [(6, .int r5), (5, .int i), (4, .ref (ad o4)), (3, .ref (ad o3)), (2, .ref (ad o2)), (1, .ref (ad o1)), (0, .ref b)]) hx hb dL_law_2067 hl (by decide) rfl (fun ls hl => ?_)
  refine lv_aload_n hx hb dL_law_2069 rfl (lv_at hl 4 rfl) ?_
  refine lv_aload_n hx hb dL_law_2070 rfl (lv_at hl 6 rfl) ?_
  refine lv_iload hx hb dL_law_2071 (lv_at hl 1 rfl) ?_
  refine lv_iconst (v := 1) hx hb dL_law_2073 (by decide) ?_
  refine lv_iadd hx hb dL_law_2074 ?_
  replace hf := ckiE hf
  obtain ⟨h7, hf⟩ := hf
  refine va_sld hx hb hX hbl hbA hS h7 dL_law_2075 ?_
  refine lv_aload_n hx hb dL_law_2076 rfl (lv_at hl 6 rfl) ?_
  refine lv_iload hx hb dL_law_2077 (lv_at hl 1 rfl) ?_
  refine lv_iconst (v := 2) hx hb dL_law_2079 (by decide) ?_
  refine lv_iadd hx hb dL_law_2080 ?_
  replace hf := ckiE hf
  obtain ⟨h8, hf⟩ := hf
  refine va_sld hx hb hX hbl hbA hS h8 dL_law_2081 ?_
  replace hf := obE hf
  obtain ⟨z9, hz9, hf⟩ := hf
  obtain ⟨r11, S10⟩ := z9
  replace hf := ltE (ltE hf r11 rfl) S10 rfl
  refine x_callV (As := [.int (xs (Int32.toNatClampNeg (i + 1))), .int (xs (Int32.toNatClampNeg (i + 2)))]) (rest := []) (o := (some (.int r11))) (S1 := S10) hC hl.1 hW hS hGs hA t2 rfl (show vwCl[10]? = some (RX11, TX11, 30) ∧ 10 < 11 from ⟨rfl, by decide⟩) (c_X11_inClass l g ad n K H.size F S4 o2 (xs (Int32.toNatClampNeg (i + 1))) (xs (Int32.toNatClampNeg (i + 2))) t2 r11 S10 hz9) (cwV 2 hts gL_law_X11_inClass rfl rfl rfl (by decide +kernel) ⟨Nat.le_trans (Nat.le_of_ble_eq_true rfl) hRf, Nat.le_trans (Nat.le_of_ble_eq_true rfl) hRl⟩) rfl rfl (Nat.le_of_ble_eq_true rfl) dL_law_2082 ⟨by omega, by omega⟩ (fun H locs hPz9 hW hS => ?_)
  refine W.eq (g2 := F0 m 2085 ls [.int r11]) rfl ?_
  refine lv_istore (lv' := [(7, .int r11), (6, .int r5), (5, .int i), (4, .ref (ad o4)), (3, .ref (ad o3)), (2, .ref (ad o2)), (1, .ref (ad o1)), (0, .ref b)]) hx hb dL_law_2085 hl (by decide) rfl (fun ls hl => ?_)
  refine lv_aload_n hx hb dL_law_2087 rfl (lv_at hl 5 rfl) ?_
  replace hf := obE hf
  obtain ⟨z13, hz13, hf⟩ := hf
  obtain ⟨r15, S14⟩ := z13
  replace hf := ltE (ltE hf r15 rfl) S14 rfl
  refine x_callV (As := []) (rest := []) (o := (some (.int r15))) (S1 := S14) hC hl.1 hW hS hGs hA t2 rfl (show vwCl[10]? = some (RX11, TX11, 30) ∧ 10 < 11 from ⟨rfl, by decide⟩) (c_X11_thrown l g ad n K H.size F S10 o2 t2 r15 S14 hz13) (cwV 0 hts gL_law_X11_thrown rfl rfl rfl (by decide +kernel) ⟨Nat.le_trans (Nat.le_of_ble_eq_true rfl) hRf, Nat.le_trans (Nat.le_of_ble_eq_true rfl) hRl⟩) rfl rfl (Nat.le_of_ble_eq_true rfl) dL_law_2088 ⟨by omega, by omega⟩ (fun H locs hPz13 hW hS => ?_)
  refine W.eq (g2 := F0 m 2091 ls [.int r15]) rfl ?_
  refine lv_iload hx hb dL_law_2091 (lv_at hl 1 rfl) ?_
  refine lv_icmp_eq (tgt := 2098) hx hb dL_law_2093 (by decide) (fun c17 => ?_) (fun c17 => ?_)
  · replace hf := ifT c17 hf
    refine lv_iload hx hb dL_law_2098 (lv_at hl 1 rfl) ?_
    refine lv_if_ne (tgt := 2115) hx hb dL_law_2100 (by decide) (fun c18 => ?_) (fun c18 => ?_)
    · replace hf := ifT c18 hf
      refine lv_goto (tgt := 3297) hx hb dL_law_2115 (by decide) ?_
      obtain ⟨e1, e2⟩ := so2 hf
      subst e1
      subst e2
      refine W.widen (k := cells + 20) (n := slots + 8189) (by omega) (by omega) ?_
      exact kk ad K _ _ ls Ag.rf hW hS (lv_sub hl [2, 3, 4, 5, 6, 7] rfl)
    · replace hf := ifF (fun q => q c18) hf
      refine lv_aload_n hx hb dL_law_2103 rfl (lv_at hl 4 rfl) ?_
      refine lv_iconst (v := 0) hx hb dL_law_2104 (by decide) ?_
      replace hf := ckiE hf
      obtain ⟨h19, hf⟩ := hf
      refine x_lald hC hW t3 rfl rfl h19 dL_law_2105 ?_
      refine lv_iload hx hb dL_law_2106 (lv_at hl 0 rfl) ?_
      refine lv_i2l (v := r11.toInt64) hx hb dL_law_2108 rfl ?_
      refine W.lcmp hx hb dL_law_2109 ?_
      refine lv_if_eq (tgt := 2115) hx hb dL_law_2110 (by decide) (fun c20 => ?_) (fun c20 => ?_)
      · replace hf := ifT c20 hf
        refine lv_goto (tgt := 3297) hx hb dL_law_2115 (by decide) ?_
        obtain ⟨e1, e2⟩ := so2 hf
        subst e1
        subst e2
        refine W.widen (k := cells + 20) (n := slots + 8189) (by omega) (by omega) ?_
        exact kk ad K _ _ ls Ag.rf hW hS (lv_sub hl [2, 3, 4, 5, 6, 7] rfl)
      · replace hf := ifF c20 hf
        refine lv_iconst (v := 0) hx hb dL_law_2113 (by decide) ?_
        cases hf
  · replace hf := ifF c17 hf
    refine lv_iconst (v := 0) hx hb dL_law_2096 (by decide) ?_
    cases hf
set_option maxHeartbeats 4000000 in
set_option maxRecDepth 100000 in
theorem c_law37 {p : Program} {e : Env} {R : Room} {s : State} {m : MethodId} {below : List Frame} {meth : Method} {c : Code} {Q : State → Prop} {b L : Nat} {xs : Nat → Int32} {H : Heap} {locs : List Loc} {ls : Array Slot} {cells slots : Nat} (l : Launch) (hfl : l.stackTraces = false) (g : GP) (ad : Nat → Nat) (n : Nat) (K : Nat → Nat) (F : Nat) (S0 : St) (o1 o2 o3 o4 : Nat) (i : Int32) (hC : Cx g p s m #[.ref b] c cL_law RL lw_tbl 9) (hX : va_X b L xs s s.heap) (hbl : b < s.heap.size) (hGs : GF g (fun q : Nat => s.heap.size ≤ q) s s.heap) (hW : Wb g ad n K S0 (fun q : Nat => s.heap.size ≤ q) H) (hS : va_S (fun q : Nat => s.heap.size ≤ q) s.heap H locs) (t1 : o1 < n ∧ K o1 = 9) (t2 : o2 < n ∧ K o2 = 10) (t3 : o3 < n ∧ K o3 = 13) (t4 : o4 < n ∧ K o4 = 17) (hl : lv_has ls 9 [(5, .int i), (4, .ref (ad o4)), (3, .ref (ad o3)), (2, .ref (ad o2)), (1, .ref (ad o1)), (0, .ref b)]) (hRf : 13 ≤ R.frames) (hRl : 280 ≤ R.locals) (hRc : cells + 20 ≤ R.cells) (hRs : slots + 8189 ≤ R.slots) (S9 : St) (n9 : Nat) (hf : f_law37 F xs L S0 n o1 o2 o3 o4 i = some (S9, n9))
    (kk : ∀ (ad9 K9 : Nat → Nat) (H1 : Heap) (locs1 : List Loc) (ls1 : Array Slot), Ag ad K n ad9 K9 n9 → Wb g ad9 n9 K9 S9 (fun q : Nat => s.heap.size ≤ q) H1 → va_S (fun q : Nat => s.heap.size ≤ q) s.heap H1 locs1 → lv_has ls1 9 [(5, .int i), (4, .ref (ad9 o4)), (3, .ref (ad9 o3)), (2, .ref (ad9 o2)), (1, .ref (ad9 o1)), (0, .ref b)] → W p l e R s m #[.ref b] below meth c H1 locs1 (cells + 20) (slots + 8189) Q (F0 m 3297 ls1 [])) :
    W p l e R s m #[.ref b] below meth c H locs cells slots Q (F0 m 2118 ls []) := by
  have hx := hC.1
  have hb := hC.2.1
  have hml := hC.2.2.1
  have hown : s.vm.findClass RL = some m.cls := hC.2.2.2.1
  have hts := hC.2.2.2.2.1
  have hK := hC.2.2.2.2.2
  have hA : ∀ q : Nat, s.heap.size ≤ q → (fun q : Nat => s.heap.size ≤ q) q := fun _ h => h
  have hbA : ¬ (fun q : Nat => s.heap.size ≤ q) b := Nat.not_le.mpr hbl
  unfold f_law37 at hf
  refine lv_aload_n hx hb dL_law_2118 rfl (lv_at hl 4 rfl) ?_
  refine lv_aload_n hx hb dL_law_2119 rfl (lv_at hl 5 rfl) ?_
  refine lv_iload hx hb dL_law_2120 (lv_at hl 0 rfl) ?_
  refine lv_iconst (v := 1) hx hb dL_law_2122 (by decide) ?_
  refine lv_iadd hx hb dL_law_2123 ?_
  replace hf := ckiE hf
  obtain ⟨h1, hf⟩ := hf
  refine va_sld hx hb hX hbl hbA hS h1 dL_law_2124 ?_
  refine lv_aload_n hx hb dL_law_2125 rfl (lv_at hl 2 rfl) ?_
  replace hf := obE hf
  obtain ⟨z2, hz2, hf⟩ := hf
  obtain ⟨r4, S3⟩ := z2
  replace hf := ltE (ltE hf r4 rfl) S3 rfl
  refine x_callSWc (As := [.ref (ad o1), .int (xs (Int32.toNatClampNeg (i + 1))), .ref (ad o3)]) (rest := []) (o := (some (.int r4))) (S1 := S3) hC hl.1 hW hS hGs hA (c_L_matches l hfl g ad n K H.size F S0 o1 (xs (Int32.toNatClampNeg (i + 1))) o3 t1 t3 r4 S3 hz2) (vx_cwSW (hh := [(0, 9, 12, 31), (0, 9, 15, 19)]) 3 hts gL_law_L_matches rfl rfl rfl (by decide +kernel) ⟨Nat.le_trans (Nat.le_of_ble_eq_true rfl) hRf, Nat.le_trans (Nat.le_of_ble_eq_true rfl) hRl⟩) rfl rfl (Nat.le_of_ble_eq_true rfl) dL_law_2126 ⟨by omega, by omega⟩ (fun H locs hPz2 hW hS => ?_)
  refine W.widen (k := cells + 2) (n := slots + 12) (by omega) (by omega) ?_
  refine W.eq (g2 := F0 m 2129 ls [.int r4]) rfl ?_
  refine lv_istore (lv' := [(6, .int r4), (5, .int i), (4, .ref (ad o4)), (3, .ref (ad o3)), (2, .ref (ad o2)), (1, .ref (ad o1)), (0, .ref b)]) hx hb dL_law_2129 hl (by decide) rfl (fun ls hl => ?_)
  refine lv_aload_n hx hb dL_law_2131 rfl (lv_at hl 4 rfl) ?_
  refine lv_aload_n hx hb dL_law_2132 rfl (lv_at hl 6 rfl) ?_
  refine lv_iload hx hb dL_law_2133 (lv_at hl 1 rfl) ?_
  refine lv_iconst (v := 1) hx hb dL_law_2135 (by decide) ?_
  refine lv_iadd hx hb dL_law_2136 ?_
  replace hf := ckiE hf
  obtain ⟨h6, hf⟩ := hf
  refine va_sld hx hb hX hbl hbA hS h6 dL_law_2137 ?_
  replace hf := obE hf
  obtain ⟨z7, hz7, hf⟩ := hf
  obtain ⟨r9, S8⟩ := z7
  replace hf := ltE (ltE hf r9 rfl) S8 rfl
  refine x_callV (As := [.int (xs (Int32.toNatClampNeg (i + 1)))]) (rest := []) (o := (some (.int r9))) (S1 := S8) hC hl.1 hW hS hGs hA t2 rfl (show vwCl[10]? = some (RX11, TX11, 30) ∧ 10 < 11 from ⟨rfl, by decide⟩) (c_X11_matches l g ad n K H.size F S3 o2 (xs (Int32.toNatClampNeg (i + 1))) t2 r9 S8 hz7) (cwV 1 hts gL_law_X11_matches rfl rfl rfl (by decide +kernel) ⟨Nat.le_trans (Nat.le_of_ble_eq_true rfl) hRf, Nat.le_trans (Nat.le_of_ble_eq_true rfl) hRl⟩) rfl rfl (Nat.le_of_ble_eq_true rfl) dL_law_2138 ⟨by omega, by omega⟩ (fun H locs hPz7 hW hS => ?_)
  refine W.eq (g2 := F0 m 2141 ls [.int r9]) rfl ?_
  refine lv_istore (lv' := [(7, .int r9), (6, .int r4), (5, .int i), (4, .ref (ad o4)), (3, .ref (ad o3)), (2, .ref (ad o2)), (1, .ref (ad o1)), (0, .ref b)]) hx hb dL_law_2141 hl (by decide) rfl (fun ls hl => ?_)
  refine lv_aload_n hx hb dL_law_2143 rfl (lv_at hl 5 rfl) ?_
  replace hf := obE hf
  obtain ⟨z11, hz11, hf⟩ := hf
  obtain ⟨r13, S12⟩ := z11
  replace hf := ltE (ltE hf r13 rfl) S12 rfl
  refine x_callV (As := []) (rest := []) (o := (some (.int r13))) (S1 := S12) hC hl.1 hW hS hGs hA t2 rfl (show vwCl[10]? = some (RX11, TX11, 30) ∧ 10 < 11 from ⟨rfl, by decide⟩) (c_X11_thrown l g ad n K H.size F S8 o2 t2 r13 S12 hz11) (cwV 0 hts gL_law_X11_thrown rfl rfl rfl (by decide +kernel) ⟨Nat.le_trans (Nat.le_of_ble_eq_true rfl) hRf, Nat.le_trans (Nat.le_of_ble_eq_true rfl) hRl⟩) rfl rfl (Nat.le_of_ble_eq_true rfl) dL_law_2144 ⟨by omega, by omega⟩ (fun H locs hPz11 hW hS => ?_)
  refine W.eq (g2 := F0 m 2147 ls [.int r13]) rfl ?_
  refine lv_iload hx hb dL_law_2147 (lv_at hl 1 rfl) ?_
  refine lv_icmp_eq (tgt := 2154) hx hb dL_law_2149 (by decide) (fun c15 => ?_) (fun c15 => ?_)
  · replace hf := ifT c15 hf
    refine lv_iload hx hb dL_law_2154 (lv_at hl 1 rfl) ?_
    refine lv_if_ne (tgt := 2171) hx hb dL_law_2156 (by decide) (fun c16 => ?_) (fun c16 => ?_)
    · replace hf := ifT c16 hf
      refine lv_goto (tgt := 3297) hx hb dL_law_2171 (by decide) ?_
      obtain ⟨e1, e2⟩ := so2 hf
      subst e1
      subst e2
      refine W.widen (k := cells + 20) (n := slots + 8189) (by omega) (by omega) ?_
      exact kk ad K _ _ ls Ag.rf hW hS (lv_sub hl [2, 3, 4, 5, 6, 7] rfl)
    · replace hf := ifF (fun q => q c16) hf
      refine lv_aload_n hx hb dL_law_2159 rfl (lv_at hl 4 rfl) ?_
      refine lv_iconst (v := 0) hx hb dL_law_2160 (by decide) ?_
      replace hf := ckiE hf
      obtain ⟨h17, hf⟩ := hf
      refine x_lald hC hW t3 rfl rfl h17 dL_law_2161 ?_
      refine lv_iload hx hb dL_law_2162 (lv_at hl 0 rfl) ?_
      refine lv_i2l (v := r9.toInt64) hx hb dL_law_2164 rfl ?_
      refine W.lcmp hx hb dL_law_2165 ?_
      refine lv_if_eq (tgt := 2171) hx hb dL_law_2166 (by decide) (fun c18 => ?_) (fun c18 => ?_)
      · replace hf := ifT c18 hf
        refine lv_goto (tgt := 3297) hx hb dL_law_2171 (by decide) ?_
        obtain ⟨e1, e2⟩ := so2 hf
        subst e1
        subst e2
        refine W.widen (k := cells + 20) (n := slots + 8189) (by omega) (by omega) ?_
        exact kk ad K _ _ ls Ag.rf hW hS (lv_sub hl [2, 3, 4, 5, 6, 7] rfl)
      · replace hf := ifF c18 hf
        refine lv_iconst (v := 0) hx hb dL_law_2169 (by decide) ?_
        cases hf
  · replace hf := ifF c15 hf
    refine lv_iconst (v := 0) hx hb dL_law_2152 (by decide) ?_
    cases hf
set_option maxHeartbeats 4000000 in
set_option maxRecDepth 100000 in
theorem c_law38 {p : Program} {e : Env} {R : Room} {s : State} {m : MethodId} {below : List Frame} {meth : Method} {c : Code} {Q : State → Prop} {b L : Nat} {xs : Nat → Int32} {H : Heap} {locs : List Loc} {ls : Array Slot} {cells slots : Nat} (l : Launch) (hfl : l.stackTraces = false) (g : GP) (ad : Nat → Nat) (n : Nat) (K : Nat → Nat) (F : Nat) (S0 : St) (o1 o2 o3 o4 : Nat) (i : Int32) (hC : Cx g p s m #[.ref b] c cL_law RL lw_tbl 9) (hX : va_X b L xs s s.heap) (hbl : b < s.heap.size) (hGs : GF g (fun q : Nat => s.heap.size ≤ q) s s.heap) (hW : Wb g ad n K S0 (fun q : Nat => s.heap.size ≤ q) H) (hS : va_S (fun q : Nat => s.heap.size ≤ q) s.heap H locs) (t1 : o1 < n ∧ K o1 = 9) (t2 : o2 < n ∧ K o2 = 10) (t3 : o3 < n ∧ K o3 = 13) (t4 : o4 < n ∧ K o4 = 17) (hl : lv_has ls 9 [(5, .int i), (4, .ref (ad o4)), (3, .ref (ad o3)), (2, .ref (ad o2)), (1, .ref (ad o1)), (0, .ref b)]) (hRf : 13 ≤ R.frames) (hRl : 280 ≤ R.locals) (hRc : cells + 20 ≤ R.cells) (hRs : slots + 8189 ≤ R.slots) (S9 : St) (n9 : Nat) (hf : f_law38 F xs L S0 n o1 o2 o3 o4 i = some (S9, n9))
    (kk : ∀ (ad9 K9 : Nat → Nat) (H1 : Heap) (locs1 : List Loc) (ls1 : Array Slot), Ag ad K n ad9 K9 n9 → Wb g ad9 n9 K9 S9 (fun q : Nat => s.heap.size ≤ q) H1 → va_S (fun q : Nat => s.heap.size ≤ q) s.heap H1 locs1 → lv_has ls1 9 [(5, .int i), (4, .ref (ad9 o4)), (3, .ref (ad9 o3)), (2, .ref (ad9 o2)), (1, .ref (ad9 o1)), (0, .ref b)] → W p l e R s m #[.ref b] below meth c H1 locs1 (cells + 20) (slots + 8189) Q (F0 m 3297 ls1 [])) :
    W p l e R s m #[.ref b] below meth c H locs cells slots Q (F0 m 2174 ls []) := by
  have hx := hC.1
  have hb := hC.2.1
  have hml := hC.2.2.1
  have hown : s.vm.findClass RL = some m.cls := hC.2.2.2.1
  have hts := hC.2.2.2.2.1
  have hK := hC.2.2.2.2.2
  have hA : ∀ q : Nat, s.heap.size ≤ q → (fun q : Nat => s.heap.size ≤ q) q := fun _ h => h
  have hbA : ¬ (fun q : Nat => s.heap.size ≤ q) b := Nat.not_le.mpr hbl
  unfold f_law38 at hf
  refine lv_aload_n hx hb dL_law_2174 rfl (lv_at hl 4 rfl) ?_
  refine lv_aload_n hx hb dL_law_2175 rfl (lv_at hl 5 rfl) ?_
  refine lv_iload hx hb dL_law_2176 (lv_at hl 0 rfl) ?_
  refine lv_iconst (v := 1) hx hb dL_law_2178 (by decide) ?_
  refine lv_iadd hx hb dL_law_2179 ?_
  replace hf := ckiE hf
  obtain ⟨h1, hf⟩ := hf
  refine va_sld hx hb hX hbl hbA hS h1 dL_law_2180 ?_
  refine lv_aload_n hx hb dL_law_2181 rfl (lv_at hl 5 rfl) ?_
  refine lv_iload hx hb dL_law_2182 (lv_at hl 0 rfl) ?_
  refine lv_iconst (v := 2) hx hb dL_law_2184 (by decide) ?_
  refine lv_iadd hx hb dL_law_2185 ?_
  replace hf := ckiE hf
  obtain ⟨h2, hf⟩ := hf
  refine va_sld hx hb hX hbl hbA hS h2 dL_law_2186 ?_
  refine lv_aload_n hx hb dL_law_2187 rfl (lv_at hl 2 rfl) ?_
  replace hf := obE hf
  obtain ⟨z3, hz3, hf⟩ := hf
  obtain ⟨r5, S4⟩ := z3
  replace hf := ltE (ltE hf r5 rfl) S4 rfl
  refine x_callSWc (As := [.ref (ad o1), .int (xs (Int32.toNatClampNeg (i + 1))), .int (xs (Int32.toNatClampNeg (i + 2))), .ref (ad o3)]) (rest := []) (o := (some (.int r5))) (S1 := S4) hC hl.1 hW hS hGs hA (c_L_commonBytes l hfl g ad n K H.size F S0 o1 (xs (Int32.toNatClampNeg (i + 1))) (xs (Int32.toNatClampNeg (i + 2))) o3 t1 t3 r5 S4 hz3) (vx_cwSW (hh := [(0, 10, 13, 31)]) 4 hts gL_law_L_commonBytes rfl rfl rfl (by decide +kernel) ⟨Nat.le_trans (Nat.le_of_ble_eq_true rfl) hRf, Nat.le_trans (Nat.le_of_ble_eq_true rfl) hRl⟩) rfl rfl (Nat.le_of_ble_eq_true rfl) dL_law_2188 ⟨by omega, by omega⟩ (fun H locs hPz3 hW hS => ?_)
  refine W.widen (k := cells + 2) (n := slots + 12) (by omega) (by omega) ?_
  refine W.eq (g2 := F0 m 2191 ls [.int r5]) rfl ?_
  refine lv_istore (lv' := [(6, .int r5), (5, .int i), (4, .ref (ad o4)), (3, .ref (ad o3)), (2, .ref (ad o2)), (1, .ref (ad o1)), (0, .ref b)]) hx hb dL_law_2191 hl (by decide) rfl (fun ls hl => ?_)
  refine lv_aload_n hx hb dL_law_2193 rfl (lv_at hl 4 rfl) ?_
  refine lv_aload_n hx hb dL_law_2194 rfl (lv_at hl 6 rfl) ?_
  refine lv_iload hx hb dL_law_2195 (lv_at hl 1 rfl) ?_
  refine lv_iconst (v := 1) hx hb dL_law_2197 (by decide) ?_
  refine lv_iadd hx hb dL_law_2198 ?_
  replace hf := ckiE hf
  obtain ⟨h7, hf⟩ := hf
  refine va_sld hx hb hX hbl hbA hS h7 dL_law_2199 ?_
  refine lv_aload_n hx hb dL_law_2200 rfl (lv_at hl 6 rfl) ?_
  refine lv_iload hx hb dL_law_2201 (lv_at hl 1 rfl) ?_
  refine lv_iconst (v := 2) hx hb dL_law_2203 (by decide) ?_
  refine lv_iadd hx hb dL_law_2204 ?_
  replace hf := ckiE hf
  obtain ⟨h8, hf⟩ := hf
  refine va_sld hx hb hX hbl hbA hS h8 dL_law_2205 ?_
  replace hf := obE hf
  obtain ⟨z9, hz9, hf⟩ := hf
  obtain ⟨r11, S10⟩ := z9
  replace hf := ltE (ltE hf r11 rfl) S10 rfl
  refine x_callV (As := [.int (xs (Int32.toNatClampNeg (i + 1))), .int (xs (Int32.toNatClampNeg (i + 2)))]) (rest := []) (o := (some (.int r11))) (S1 := S10) hC hl.1 hW hS hGs hA t2 rfl (show vwCl[10]? = some (RX11, TX11, 30) ∧ 10 < 11 from ⟨rfl, by decide⟩) (c_X11_commonBytes l g ad n K H.size F S4 o2 (xs (Int32.toNatClampNeg (i + 1))) (xs (Int32.toNatClampNeg (i + 2))) t2 r11 S10 hz9) (cwV 2 hts gL_law_X11_commonBytes rfl rfl rfl (by decide +kernel) ⟨Nat.le_trans (Nat.le_of_ble_eq_true rfl) hRf, Nat.le_trans (Nat.le_of_ble_eq_true rfl) hRl⟩) rfl rfl (Nat.le_of_ble_eq_true rfl) dL_law_2206 ⟨by omega, by omega⟩ (fun H locs hPz9 hW hS => ?_)
  refine W.eq (g2 := F0 m 2209 ls [.int r11]) rfl ?_
  refine lv_istore (lv' := [(7, .int r11), (6, .int r5), (5, .int i), (4, .ref (ad o4)), (3, .ref (ad o3)), (2, .ref (ad o2)), (1, .ref (ad o1)), (0, .ref b)]) hx hb dL_law_2209 hl (by decide) rfl (fun ls hl => ?_)
  refine lv_aload_n hx hb dL_law_2211 rfl (lv_at hl 5 rfl) ?_
  replace hf := obE hf
  obtain ⟨z13, hz13, hf⟩ := hf
  obtain ⟨r15, S14⟩ := z13
  replace hf := ltE (ltE hf r15 rfl) S14 rfl
  refine x_callV (As := []) (rest := []) (o := (some (.int r15))) (S1 := S14) hC hl.1 hW hS hGs hA t2 rfl (show vwCl[10]? = some (RX11, TX11, 30) ∧ 10 < 11 from ⟨rfl, by decide⟩) (c_X11_thrown l g ad n K H.size F S10 o2 t2 r15 S14 hz13) (cwV 0 hts gL_law_X11_thrown rfl rfl rfl (by decide +kernel) ⟨Nat.le_trans (Nat.le_of_ble_eq_true rfl) hRf, Nat.le_trans (Nat.le_of_ble_eq_true rfl) hRl⟩) rfl rfl (Nat.le_of_ble_eq_true rfl) dL_law_2212 ⟨by omega, by omega⟩ (fun H locs hPz13 hW hS => ?_)
  refine W.eq (g2 := F0 m 2215 ls [.int r15]) rfl ?_
  refine lv_iload hx hb dL_law_2215 (lv_at hl 1 rfl) ?_
  refine lv_icmp_eq (tgt := 2222) hx hb dL_law_2217 (by decide) (fun c17 => ?_) (fun c17 => ?_)
  · replace hf := ifT c17 hf
    refine lv_iload hx hb dL_law_2222 (lv_at hl 1 rfl) ?_
    refine lv_if_ne (tgt := 2239) hx hb dL_law_2224 (by decide) (fun c18 => ?_) (fun c18 => ?_)
    · replace hf := ifT c18 hf
      refine lv_goto (tgt := 3297) hx hb dL_law_2239 (by decide) ?_
      obtain ⟨e1, e2⟩ := so2 hf
      subst e1
      subst e2
      refine W.widen (k := cells + 20) (n := slots + 8189) (by omega) (by omega) ?_
      exact kk ad K _ _ ls Ag.rf hW hS (lv_sub hl [2, 3, 4, 5, 6, 7] rfl)
    · replace hf := ifF (fun q => q c18) hf
      refine lv_aload_n hx hb dL_law_2227 rfl (lv_at hl 4 rfl) ?_
      refine lv_iconst (v := 0) hx hb dL_law_2228 (by decide) ?_
      replace hf := ckiE hf
      obtain ⟨h19, hf⟩ := hf
      refine x_lald hC hW t3 rfl rfl h19 dL_law_2229 ?_
      refine lv_iload hx hb dL_law_2230 (lv_at hl 0 rfl) ?_
      refine lv_i2l (v := r11.toInt64) hx hb dL_law_2232 rfl ?_
      refine W.lcmp hx hb dL_law_2233 ?_
      refine lv_if_eq (tgt := 2239) hx hb dL_law_2234 (by decide) (fun c20 => ?_) (fun c20 => ?_)
      · replace hf := ifT c20 hf
        refine lv_goto (tgt := 3297) hx hb dL_law_2239 (by decide) ?_
        obtain ⟨e1, e2⟩ := so2 hf
        subst e1
        subst e2
        refine W.widen (k := cells + 20) (n := slots + 8189) (by omega) (by omega) ?_
        exact kk ad K _ _ ls Ag.rf hW hS (lv_sub hl [2, 3, 4, 5, 6, 7] rfl)
      · replace hf := ifF c20 hf
        refine lv_iconst (v := 0) hx hb dL_law_2237 (by decide) ?_
        cases hf
  · replace hf := ifF c17 hf
    refine lv_iconst (v := 0) hx hb dL_law_2220 (by decide) ?_
    cases hf
